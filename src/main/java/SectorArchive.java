import java.util.Arrays;

/**
 * An archive of files with versions on a small image of sectors, with parity against damage and two
 * header slots against a machine that stops. All rows are made once, in constructors: no call makes
 * an object.
 */
public final class SectorArchive {
    public static final int NONE = -1;
    public static final int DAMAGED = -2;
    public static final int FULL = -4;
    public static final int DOWN = -9;

    private static final int DATA_SECTORS = 48;
    private static final int ALL_SECTORS = 60;
    private static final int FIRST_FREE = 2;
    private static final int SECTOR_BYTES = 12;
    private static final int PAYLOAD = 11;
    private static final int GROUPS = 12;
    private static final int GROUP_DATA = 4;

    private static final int NAMES = 8;
    private static final int MOST_FILES = 10;
    private static final int MOST_ADDED = 4;
    private static final int MOST_BYTES = 24;
    private static final int MOST_VERSION = 255;
    private static final int LAST_TIME = 127;
    private static final int MOST_LIMIT = 200;

    private static final int NAME = 0;
    private static final int VERSION = 1;
    private static final int BLOCK_FIRST = 2;
    private static final int BLOCK_SECTORS = 3;
    private static final int BEGIN = 4;
    private static final int SIZE = 5;
    private static final int TIME = 6;
    private static final int ENTRY_WORDS = 7;

    private static final int BYTE_VALUES = 256;
    private static final int BLOCK_HEAD = 3;

    private final Image image = new Image();
    private final Changes changes = new Changes();
    private final Packer packer = new Packer();
    private final int[] greatestVersions = new int[NAMES];
    private final int[] entry = new int[ENTRY_WORDS];
    private final int[] sectorBytes = new int[DATA_SECTORS * PAYLOAD];
    private final int[] lastExtracted = new int[MOST_BYTES];
    private int lastExtractedSize = 0;
    private int time = 0;
    private Index index = new Index();
    private Index planned = new Index();

    public SectorArchive() {
        // A new image has no header: opening it would find just what the fields begin with.
    }

    public boolean write(int n, long w) {
        return !image.isStopped() && changes.appendToDraft(n, w);
    }

    public int add(int name) {
        if (image.isStopped()) {
            return DOWN;
        }
        if (name < 0 || name >= NAMES) {
            return NONE;
        }
        return changes.addDraft(name) ? changes.addedCount : FULL;
    }

    public boolean remove(int name, int version) {
        return !image.isStopped() && changes.markRemoval(index.find(name, version));
    }

    public int drop() {
        if (image.isStopped()) {
            return DOWN;
        }
        int dropped = changes.waiting();
        changes.forget();
        return dropped;
    }

    public int commit() {
        if (image.isStopped()) {
            return DOWN;
        }
        if (changes.waiting() == 0) {
            return 0;
        }
        int nextTime = time < LAST_TIME ? time + 1 : time;
        if (!planCommit(nextTime)) {
            return FULL;
        }
        int before = image.writings;
        if (!writePlanned()) {
            return DOWN;
        }
        time = nextTime;
        swapIndexes();
        rememberVersions();
        changes.forget();
        return image.writings - before;
    }

    public int extract(int name, int version) {
        if (image.isStopped()) {
            return DOWN;
        }
        int k = index.find(name, version);
        if (k < 0) {
            return NONE;
        }
        int begin = index.word(k, BEGIN);
        int size = index.word(k, SIZE);
        if (!decodeBlock(index.word(k, BLOCK_FIRST), index.word(k, BLOCK_SECTORS))
                || begin + size > packer.rawSize) {
            return DAMAGED;
        }
        System.arraycopy(packer.raw, begin, lastExtracted, 0, size);
        lastExtractedSize = size;
        return size;
    }

    public int extracted(int i) {
        if (image.isStopped()) {
            return DOWN;
        }
        return i >= 0 && i < lastExtractedSize ? lastExtracted[i] : NONE;
    }

    public int files() {
        return image.isStopped() ? DOWN : index.count;
    }

    public int file(int k, int w) {
        if (image.isStopped()) {
            return DOWN;
        }
        if (k < 0 || k >= index.count) {
            return NONE;
        }
        switch (w) {
            case 0: return index.word(k, NAME);
            case 1: return index.word(k, VERSION);
            case 2: return index.word(k, SIZE);
            case 3: return index.word(k, TIME);
            case 4: return index.word(k, BLOCK_FIRST);
            case 5: return index.word(k, BLOCK_SECTORS);
            default: return NONE;
        }
    }

    public int repair() {
        if (image.isStopped()) {
            return DOWN;
        }
        int staying = 0;
        for (int group = 0; group < GROUPS; group++) {
            staying += image.mendGroup(group);
            if (image.isStopped()) {
                return DOWN;
            }
        }
        return staying;
    }

    public boolean limit(int n) {
        if (image.isStopped() || n < 0 || n > MOST_LIMIT) {
            return false;
        }
        image.allowWritings(n);
        return true;
    }

    public int open() {
        image.start();
        changes.forget();
        changes.draftSize = 0;
        boolean zeroTaken = takeHeader(0, index);
        boolean oneTaken = takeHeader(1, planned);
        chooseLatest(zeroTaken, oneTaken);
        Arrays.fill(greatestVersions, 0);
        rememberVersions();
        time = index.greatestTime();
        return index.count;
    }

    public boolean down() {
        return image.isStopped();
    }

    public boolean damage(int sector, int place, int bits) {
        if (!Image.isPlace(sector, place) || bits < 1 || bits >= BYTE_VALUES) {
            return false;
        }
        image.flip(sector, place, bits);
        return true;
    }

    public int at(int sector, int place) {
        return Image.isPlace(sector, place) ? image.cell(sector, place) : NONE;
    }

    public int number() {
        return image.isStopped() ? DOWN : index.headerNumber;
    }

    private void chooseLatest(boolean zeroTaken, boolean oneTaken) {
        if (oneTaken && (!zeroTaken || planned.headerNumber == index.nextNumber())) {
            swapIndexes();
        } else if (!zeroTaken) {
            index.clear();
        }
    }

    private boolean takeHeader(int sector, Index target) {
        target.clear();
        if (!image.fetch(sector, sectorBytes, 0) || !target.takeHeader(sectorBytes)) {
            return false;
        }
        if (target.sectors == 0) {
            return true;
        }
        return Image.areFreeSectors(target.first, target.sectors)
                && image.fetchRun(target.first, target.sectors, sectorBytes)
                && target.takeEntries(sectorBytes, target.sectors * PAYLOAD);
    }

    private void rememberVersions() {
        for (int k = 0; k < index.count; k++) {
            int name = index.word(k, NAME);
            greatestVersions[name] = Math.max(greatestVersions[name], index.word(k, VERSION));
        }
    }

    private void swapIndexes() {
        Index other = index;
        index = planned;
        planned = other;
    }

    private boolean decodeBlock(int first, int sectors) {
        return image.fetchRun(first, sectors, sectorBytes)
                && packer.unpackBlock(sectorBytes, sectors * PAYLOAD);
    }

    /** Lays out the next index and block without writing; false when there is no room for them. */
    private boolean planCommit(int nextTime) {
        planned.clear();
        planned.headerNumber = index.nextNumber();
        for (int k = 0; k < index.count; k++) {
            if (!changes.removals[k]) {
                planned.append(index, k);
            }
        }
        if (planned.count + changes.addedCount > MOST_FILES) {
            return false;
        }
        if (changes.addedCount > 0) {
            packer.packBlock(changes.addedBytes, changes.addedTotal);
            if (!planBlock(nextTime)) {
                return false;
            }
        }
        return planIndexPlace();
    }

    private boolean planBlock(int nextTime) {
        int sectors = sectorsFor(packer.blockSize);
        int first = freePlace(sectors);
        if (first == NONE) {
            return false;
        }
        int begin = 0;
        for (int i = 0; i < changes.addedCount; i++) {
            int name = changes.addedNames[i];
            int version = greatestVersions[name] + 1 + changes.earlierOfSameName(i);
            if (version > MOST_VERSION) {
                return false;
            }
            entry[NAME] = name;
            entry[VERSION] = version;
            entry[BLOCK_FIRST] = first;
            entry[BLOCK_SECTORS] = sectors;
            entry[BEGIN] = begin;
            entry[SIZE] = changes.addedSizes[i];
            entry[TIME] = nextTime;
            planned.insert(entry);
            begin += changes.addedSizes[i];
        }
        packer.place = first;
        return true;
    }

    private boolean planIndexPlace() {
        if (planned.count == 0) {
            return true;
        }
        int sectors = sectorsFor(planned.byteSize());
        int first = freePlace(sectors);
        if (first == NONE) {
            return false;
        }
        planned.first = first;
        planned.sectors = sectors;
        return true;
    }

    /** The first run of sectors outside of the committed index and of every block, old or planned. */
    private int freePlace(int sectors) {
        int run = 0;
        for (int sector = FIRST_FREE; sector < DATA_SECTORS; sector++) {
            boolean taken = index.occupies(sector) || planned.occupies(sector);
            run = taken ? 0 : run + 1;
            if (run == sectors) {
                return sector - sectors + 1;
            }
        }
        return NONE;
    }

    private static int sectorsFor(int bytes) {
        return (bytes + PAYLOAD - 1) / PAYLOAD;
    }

    /** The header comes last, so that a stop before it leaves the committed state in force. */
    private boolean writePlanned() {
        if (changes.addedCount > 0
                && !image.storeRun(packer.place, packer.block, packer.blockSize)) {
            return false;
        }
        if (planned.count > 0) {
            planned.layOutEntries(sectorBytes);
            if (!image.storeRun(planned.first, sectorBytes, planned.byteSize())) {
                return false;
            }
        }
        planned.layOutHeader(sectorBytes);
        return image.storeRun(planned.headerNumber % 2, sectorBytes, Index.HEADER_BYTES);
    }

    /** The sectors with their checks and parity, and the limit that stops the machine. */
    private static final class Image {
        private static final int UNLIMITED = -1;
        private static final int CHECK_START = 90;
        private static final int CHECK_FEEDBACK = 29;

        private final int[] cells = new int[ALL_SECTORS * SECTOR_BYTES];
        private final int[] mixed = new int[BYTE_VALUES];
        private final int[] joined = new int[PAYLOAD];
        private int writingsLeft = UNLIMITED;
        private boolean stopped = false;
        private int writings = 0;

        Image() {
            for (int x = 0; x < BYTE_VALUES; x++) {
                mixed[x] = mix(x);
            }
            for (int sector = 0; sector < ALL_SECTORS; sector++) {
                seal(sector);
            }
        }

        private static int mix(int start) {
            int x = start;
            for (int i = 0; i < 8; i++) {
                x = x >= 128 ? (2 * x ^ CHECK_FEEDBACK) & 255 : 2 * x;
            }
            return x;
        }

        static boolean isPlace(int sector, int place) {
            return sector >= 0 && sector < ALL_SECTORS && place >= 0 && place < SECTOR_BYTES;
        }

        static boolean areFreeSectors(int first, int count) {
            return first >= FIRST_FREE && count >= 1 && first + count <= DATA_SECTORS;
        }

        int cell(int sector, int place) {
            return cells[sector * SECTOR_BYTES + place];
        }

        void flip(int sector, int place, int bits) {
            cells[sector * SECTOR_BYTES + place] ^= bits;
        }

        boolean isStopped() {
            return stopped;
        }

        void start() {
            stopped = false;
        }

        void allowWritings(int n) {
            writingsLeft = n;
        }

        /** Whether the next writing is done; every writing asks here first. */
        private boolean countWriting() {
            if (writingsLeft == 0) {
                stopped = true;
                writingsLeft = UNLIMITED;
                return false;
            }
            if (writingsLeft > 0) {
                writingsLeft--;
            }
            writings++;
            return true;
        }

        private int checkOf(int sector) {
            int check = CHECK_START;
            for (int place = 0; place < PAYLOAD; place++) {
                check = mixed[check ^ cells[sector * SECTOR_BYTES + place]];
            }
            return check;
        }

        private void seal(int sector) {
            cells[sector * SECTOR_BYTES + PAYLOAD] = checkOf(sector);
        }

        private boolean isGood(int sector) {
            return cell(sector, PAYLOAD) == checkOf(sector);
        }

        /** Member 4 of a group is its parity sector: each member is the other four joined. */
        private static int sectorOf(int group, int member) {
            return member < GROUP_DATA ? group * GROUP_DATA + member : DATA_SECTORS + group;
        }

        private void joinOthers(int group, int leftOut) {
            Arrays.fill(joined, 0);
            for (int member = 0; member <= GROUP_DATA; member++) {
                if (member != leftOut) {
                    int sector = sectorOf(group, member);
                    for (int place = 0; place < PAYLOAD; place++) {
                        joined[place] ^= cell(sector, place);
                    }
                }
            }
        }

        private void fill(int sector, int[] bytes) {
            System.arraycopy(bytes, 0, cells, sector * SECTOR_BYTES, PAYLOAD);
            seal(sector);
        }

        private int countBad(int group) {
            int bad = 0;
            for (int member = 0; member <= GROUP_DATA; member++) {
                bad += isGood(sectorOf(group, member)) ? 0 : 1;
            }
            return bad;
        }

        /** Reads a data sector, restoring it when it alone is bad; false when reading fails. */
        boolean fetch(int sector, int[] target, int from) {
            if (isGood(sector)) {
                System.arraycopy(cells, sector * SECTOR_BYTES, target, from, PAYLOAD);
                return true;
            }
            int group = sector / GROUP_DATA;
            if (countBad(group) > 1) {
                return false;
            }
            joinOthers(group, sector % GROUP_DATA);
            System.arraycopy(joined, 0, target, from, PAYLOAD);
            return true;
        }

        boolean fetchRun(int first, int count, int[] target) {
            for (int i = 0; i < count; i++) {
                if (!fetch(first + i, target, i * PAYLOAD)) {
                    return false;
                }
            }
            return true;
        }

        /** Writes bytes into data sectors one after the other; false when the machine stops in it. */
        boolean storeRun(int first, int[] bytes, int size) {
            for (int i = 0; i < sectorsFor(size); i++) {
                if (!storeSector(first + i, bytes, i * PAYLOAD, size)) {
                    return false;
                }
            }
            return true;
        }

        private boolean storeSector(int sector, int[] bytes, int from, int size) {
            if (!countWriting()) {
                return false;
            }
            for (int place = 0; place < PAYLOAD; place++) {
                int i = from + place;
                cells[sector * SECTOR_BYTES + place] = i < size ? bytes[i] : 0;
            }
            seal(sector);
            if (!countWriting()) {
                return false;
            }
            int group = sector / GROUP_DATA;
            joinOthers(group, GROUP_DATA);
            fill(sectorOf(group, GROUP_DATA), joined);
            return true;
        }

        /** Answers how many bad sectors stay in the group; a stop shows in isStopped. */
        int mendGroup(int group) {
            int bad = countBad(group);
            if (bad > 1) {
                return bad;
            }
            int member = bad == 1 ? firstBadMember(group) : GROUP_DATA;
            int sector = sectorOf(group, member);
            joinOthers(group, member);
            if (bad == 1 || !holdsJoined(sector)) {
                if (countWriting()) {
                    fill(sector, joined);
                }
            }
            return 0;
        }

        private int firstBadMember(int group) {
            int member = 0;
            while (member < GROUP_DATA && isGood(sectorOf(group, member))) {
                member++;
            }
            return member;
        }

        private boolean holdsJoined(int sector) {
            for (int place = 0; place < PAYLOAD; place++) {
                if (cell(sector, place) != joined[place]) {
                    return false;
                }
            }
            return true;
        }
    }

    /** What a header tells, and the files of its index by name, then by version. */
    private static final class Index {
        private static final int HEADER_BYTES = 5;
        private static final int MARK_ONE = 83;
        private static final int MARK_TWO = 65;

        private final int[] words = new int[MOST_FILES * ENTRY_WORDS];
        private int count = 0;
        private int headerNumber = 0;
        private int first = 0;
        private int sectors = 0;

        void clear() {
            count = 0;
            headerNumber = 0;
            first = 0;
            sectors = 0;
        }

        int nextNumber() {
            return (headerNumber + 1) % BYTE_VALUES;
        }

        int word(int k, int w) {
            return words[k * ENTRY_WORDS + w];
        }

        int byteSize() {
            return 1 + count * ENTRY_WORDS;
        }

        int find(int name, int version) {
            for (int k = 0; k < count; k++) {
                if (word(k, NAME) == name && word(k, VERSION) == version) {
                    return k;
                }
            }
            return NONE;
        }

        int greatestTime() {
            int greatest = 0;
            for (int k = 0; k < count; k++) {
                greatest = Math.max(greatest, word(k, TIME));
            }
            return greatest;
        }

        boolean occupies(int sector) {
            if (sector >= first && sector < first + sectors) {
                return true;
            }
            for (int k = 0; k < count; k++) {
                int blockFirst = word(k, BLOCK_FIRST);
                if (sector >= blockFirst && sector < blockFirst + word(k, BLOCK_SECTORS)) {
                    return true;
                }
            }
            return false;
        }

        void append(Index other, int k) {
            if (count < MOST_FILES) {
                System.arraycopy(other.words, k * ENTRY_WORDS, words, count * ENTRY_WORDS, ENTRY_WORDS);
                count++;
            }
        }

        void insert(int[] entry) {
            if (count >= MOST_FILES) {
                return;
            }
            int k = count;
            while (k > 0 && !rises(k - 1, entry[NAME], entry[VERSION])) {
                k--;
            }
            int from = k * ENTRY_WORDS;
            System.arraycopy(words, from, words, from + ENTRY_WORDS, (count - k) * ENTRY_WORDS);
            System.arraycopy(entry, 0, words, from, ENTRY_WORDS);
            count++;
        }

        /** Whether a name and version come behind those of file k. */
        private boolean rises(int k, int name, int version) {
            return word(k, NAME) < name || word(k, NAME) == name && word(k, VERSION) < version;
        }

        boolean takeHeader(int[] bytes) {
            headerNumber = bytes[2];
            first = bytes[3];
            sectors = bytes[4];
            return bytes[0] == MARK_ONE && bytes[1] == MARK_TWO;
        }

        void layOutHeader(int[] bytes) {
            bytes[0] = MARK_ONE;
            bytes[1] = MARK_TWO;
            bytes[2] = headerNumber;
            bytes[3] = first;
            bytes[4] = sectors;
        }

        void layOutEntries(int[] bytes) {
            bytes[0] = count;
            System.arraycopy(words, 0, bytes, 1, count * ENTRY_WORDS);
        }

        /** Takes the files from an index's bytes; false when they can't be an index. */
        boolean takeEntries(int[] bytes, int room) {
            if (bytes[0] < 1 || bytes[0] > MOST_FILES || 1 + bytes[0] * ENTRY_WORDS > room) {
                return false;
            }
            count = bytes[0];
            System.arraycopy(bytes, 1, words, 0, count * ENTRY_WORDS);
            for (int k = 0; k < count; k++) {
                if (!isEntrySound(k)) {
                    return false;
                }
            }
            return true;
        }

        private boolean isEntrySound(int k) {
            return word(k, NAME) < NAMES
                    && word(k, VERSION) > 0
                    && word(k, SIZE) <= MOST_BYTES
                    && Image.areFreeSectors(word(k, BLOCK_FIRST), word(k, BLOCK_SECTORS))
                    && (k == 0 || rises(k - 1, word(k, NAME), word(k, VERSION)));
        }
    }

    /** The draft, and what waits to be committed. */
    private static final class Changes {
        private static final int MOST_WRITTEN = 8;

        private final int[] draft = new int[MOST_BYTES];
        private final int[] addedBytes = new int[MOST_ADDED * MOST_BYTES];
        private final int[] addedNames = new int[MOST_ADDED];
        private final int[] addedSizes = new int[MOST_ADDED];
        private final boolean[] removals = new boolean[MOST_FILES];
        private int draftSize = 0;
        private int addedCount = 0;
        private int addedTotal = 0;
        private int removalCount = 0;

        int waiting() {
            return addedCount + removalCount;
        }

        void forget() {
            addedCount = 0;
            addedTotal = 0;
            removalCount = 0;
            for (int k = 0; k < MOST_FILES; k++) {
                removals[k] = false;
            }
        }

        boolean appendToDraft(int n, long w) {
            if (n < 1 || n > MOST_WRITTEN || draftSize + n > MOST_BYTES) {
                return false;
            }
            for (int i = 0; i < n; i++) {
                draft[draftSize] = (int) (w >>> 8 * i & 255);
                draftSize++;
            }
            return true;
        }

        boolean addDraft(int name) {
            if (addedCount >= MOST_ADDED) {
                return false;
            }
            System.arraycopy(draft, 0, addedBytes, addedTotal, draftSize);
            addedNames[addedCount] = name;
            addedSizes[addedCount] = draftSize;
            addedTotal += draftSize;
            addedCount++;
            draftSize = 0;
            return true;
        }

        /** File k of the index, NONE when there is no such file. */
        boolean markRemoval(int k) {
            if (k < 0 || k >= MOST_FILES || removals[k]) {
                return false;
            }
            removals[k] = true;
            removalCount++;
            return true;
        }

        int earlierOfSameName(int added) {
            int earlier = 0;
            for (int i = 0; i < added; i++) {
                earlier += addedNames[i] == addedNames[added] ? 1 : 0;
            }
            return earlier;
        }
    }

    /** A row of bits in bytes, put and taken from the highest bit on. */
    private static final class BitRow {
        private static final int CAPACITY = BYTE_VALUES;

        private final int[] bytes = new int[CAPACITY];
        private int bitCount = 0;
        private int nextBit = 0;

        void clear() {
            bitCount = 0;
            nextBit = 0;
        }

        int byteCount() {
            return (bitCount + 7) / 8;
        }

        void load(int[] source, int from, int count) {
            System.arraycopy(source, from, bytes, 0, count);
            bitCount = count * 8;
            nextBit = 0;
        }

        void put(int value, int count) {
            for (int i = count - 1; i >= 0; i--) {
                putBit(value >> i & 1);
            }
        }

        private void putBit(int bit) {
            int place = bitCount / 8;
            if (place >= CAPACITY) {
                return;
            }
            if (bitCount % 8 == 0) {
                bytes[place] = 0;
            }
            bytes[place] |= bit << 7 - bitCount % 8;
            bitCount++;
        }

        /** The value of the next bits, NONE when they run out. */
        int take(int count) {
            if (nextBit + count > bitCount) {
                return NONE;
            }
            int value = 0;
            for (int i = 0; i < count; i++) {
                value = 2 * value + (bytes[nextBit / 8] >> 7 - nextBit % 8 & 1);
                nextBit++;
            }
            return value;
        }
    }

    private interface Codec {
        /** Puts the bytes as bits; false when the codec can't be taken for them. */
        boolean encode(int[] raw, int count, BitRow row);

        /** Takes count bytes again; false when decoding fails. */
        boolean decode(BitRow row, int[] raw, int count);
    }

    private static final class Stored implements Codec {
        public boolean encode(int[] raw, int count, BitRow row) {
            for (int i = 0; i < count; i++) {
                row.put(raw[i], 8);
            }
            return true;
        }

        public boolean decode(BitRow row, int[] raw, int count) {
            for (int i = 0; i < count; i++) {
                raw[i] = row.take(8);
                if (raw[i] == NONE) {
                    return false;
                }
            }
            return true;
        }
    }

    private static final class Matches implements Codec {
        private static final int SHORTEST = 2;
        private static final int LONGEST = 9;
        private static final int FARTHEST = 16;

        public boolean encode(int[] raw, int count, BitRow row) {
            int i = 0;
            while (i < count) {
                int distance = bestDistance(raw, count, i);
                int length = distance == 0 ? 0 : matchLength(raw, count, i, distance);
                if (length >= SHORTEST) {
                    row.put(1, 1);
                    row.put(distance - 1, 4);
                    row.put(length - SHORTEST, 3);
                    i += length;
                } else {
                    row.put(0, 1);
                    row.put(raw[i], 8);
                    i++;
                }
            }
            return true;
        }

        /** The least distance of the longest match, 0 when nothing stands before place i. */
        private static int bestDistance(int[] raw, int count, int i) {
            int best = 0;
            int longest = -1;
            for (int distance = 1; distance <= FARTHEST && distance <= i; distance++) {
                int length = matchLength(raw, count, i, distance);
                if (length > longest) {
                    longest = length;
                    best = distance;
                }
            }
            return best;
        }

        private static int matchLength(int[] raw, int count, int i, int distance) {
            int length = 0;
            while (length < LONGEST && i + length < count
                    && raw[i + length] == raw[i + length - distance]) {
                length++;
            }
            return length;
        }

        public boolean decode(BitRow row, int[] raw, int count) {
            int done = 0;
            while (done < count) {
                int grown = row.take(1) == 1 ? takeMatch(row, raw, done, count) : takeByte(row, raw, done);
                if (grown <= done) {
                    return false;
                }
                done = grown;
            }
            return true;
        }

        /** Both takes answer how many bytes there are then, NONE when decoding fails. */
        private static int takeByte(BitRow row, int[] raw, int done) {
            int value = row.take(8);
            if (value == NONE) {
                return NONE;
            }
            raw[done] = value;
            return done + 1;
        }

        private static int takeMatch(BitRow row, int[] raw, int done, int count) {
            int pair = row.take(7);
            if (pair == NONE) {
                return NONE;
            }
            int distance = (pair >> 3) + 1;
            int end = done + (pair & 7) + SHORTEST;
            if (distance > done || end > count) {
                return NONE;
            }
            for (int i = done; i < end; i++) {
                raw[i] = raw[i - distance];
            }
            return end;
        }
    }

    private static final class Differences implements Codec {
        private final Matches matches = new Matches();
        private final int[] steps = new int[BYTE_VALUES];

        public boolean encode(int[] raw, int count, BitRow row) {
            for (int i = 0; i < count; i++) {
                steps[i] = i == 0 ? raw[0] : raw[i] - raw[i - 1] & 255;
            }
            return matches.encode(steps, count, row);
        }

        public boolean decode(BitRow row, int[] raw, int count) {
            if (!matches.decode(row, raw, count)) {
                return false;
            }
            for (int i = 1; i < count; i++) {
                raw[i] = raw[i] + raw[i - 1] & 255;
            }
            return true;
        }
    }

    private static final class Prefix implements Codec {
        private static final int LONGEST = 15;
        private static final int MOST_SYMBOLS = 127;

        private final int[] symbols = new int[MOST_SYMBOLS];
        private final int[] lengths = new int[MOST_SYMBOLS];
        private final int[] codes = new int[MOST_SYMBOLS];
        private final int[] weights = new int[MOST_SYMBOLS];
        private final int[] trees = new int[MOST_SYMBOLS];
        private final int[] ranked = new int[MOST_SYMBOLS];
        private final int[] firstRanks = new int[LONGEST + 2];
        private final int[] firstCodes = new int[LONGEST + 2];
        private final int[] tally = new int[BYTE_VALUES];
        private int symbolCount = 0;

        public boolean encode(int[] raw, int count, BitRow row) {
            if (count == 0 || !gatherSymbols(raw, count)) {
                return false;
            }
            makeLengths();
            makeCodes();
            row.put(symbolCount, 7);
            for (int k = 0; k < symbolCount; k++) {
                row.put(symbols[k], 8);
                row.put(lengths[k], 4);
                tally[symbols[k]] = k;
            }
            for (int i = 0; i < count; i++) {
                int k = tally[raw[i]];
                row.put(codes[k], lengths[k]);
            }
            return true;
        }

        /** False when there are more different bytes than seven bits tell, which no commit has. */
        private boolean gatherSymbols(int[] raw, int count) {
            Arrays.fill(tally, 0);
            for (int i = 0; i < count; i++) {
                tally[raw[i]]++;
            }
            symbolCount = 0;
            for (int value = 0; value < BYTE_VALUES; value++) {
                if (tally[value] > 0) {
                    if (symbolCount == MOST_SYMBOLS) {
                        return false;
                    }
                    symbols[symbolCount] = value;
                    weights[symbolCount] = tally[value];
                    symbolCount++;
                }
            }
            return true;
        }

        /** A tree is known by its least symbol, which also decides between equal weights. */
        private void makeLengths() {
            for (int k = 0; k < symbolCount; k++) {
                trees[k] = k;
                lengths[k] = symbolCount == 1 ? 1 : 0;
            }
            for (int left = symbolCount; left > 1; left--) {
                int one = lightestTree(NONE);
                int two = lightestTree(one);
                joinTrees(Math.min(one, two), Math.max(one, two));
            }
        }

        private int lightestTree(int except) {
            int best = NONE;
            for (int k = 0; k < symbolCount; k++) {
                if (trees[k] == k && k != except && (best == NONE || weights[k] < weights[best])) {
                    best = k;
                }
            }
            return best;
        }

        private void joinTrees(int kept, int gone) {
            weights[kept] += weights[gone];
            for (int k = 0; k < symbolCount; k++) {
                if (trees[k] == kept || trees[k] == gone) {
                    trees[k] = kept;
                    lengths[k]++;
                }
            }
        }

        private void makeCodes() {
            int rank = 0;
            int code = 0;
            for (int length = 1; length <= LONGEST; length++) {
                code *= 2;
                firstRanks[length] = rank;
                firstCodes[length] = code;
                for (int k = 0; k < symbolCount; k++) {
                    if (lengths[k] == length) {
                        ranked[rank] = k;
                        codes[k] = code;
                        rank++;
                        code++;
                    }
                }
            }
            firstRanks[LONGEST + 1] = rank;
        }

        public boolean decode(BitRow row, int[] raw, int count) {
            if (!takeTable(row)) {
                return false;
            }
            makeCodes();
            for (int i = 0; i < count; i++) {
                int k = takeSymbol(row);
                if (k == NONE) {
                    return false;
                }
                raw[i] = symbols[k];
            }
            return true;
        }

        private boolean takeTable(BitRow row) {
            symbolCount = 0;
            int told = row.take(7);
            if (told < 1 || told > MOST_SYMBOLS) {
                return false;
            }
            for (int k = 0; k < told; k++) {
                int pair = row.take(12);
                if (pair == NONE) {
                    return false;
                }
                symbols[k] = pair >> 4;
                lengths[k] = pair & 15;
                if (lengths[k] == 0 || k > 0 && symbols[k] <= symbols[k - 1]) {
                    return false;
                }
            }
            symbolCount = told;
            return true;
        }

        /** The symbol of the first bits that are a code, NONE when there is none. */
        private int takeSymbol(BitRow row) {
            int bits = 0;
            for (int length = 1; length <= LONGEST; length++) {
                int bit = row.take(1);
                if (bit == NONE) {
                    return NONE;
                }
                bits = 2 * bits + bit;
                int offset = bits - firstCodes[length];
                if (offset >= 0 && offset < firstRanks[length + 1] - firstRanks[length]) {
                    return ranked[firstRanks[length] + offset];
                }
            }
            return NONE;
        }
    }

    /** Makes a block of bytes by the codec that makes it smallest, and takes them again. */
    private static final class Packer {
        private final Codec[] codecs = {new Stored(), new Matches(), new Differences(), new Prefix()};
        private final BitRow row = new BitRow();
        private final int[] block = new int[BLOCK_HEAD + BYTE_VALUES];
        private final int[] raw = new int[BYTE_VALUES];
        private int blockSize = 0;
        private int rawSize = 0;
        private int place = 0;

        void packBlock(int[] bytes, int count) {
            int fewest = BYTE_VALUES;
            for (int codec = 0; codec < codecs.length; codec++) {
                row.clear();
                if (codecs[codec].encode(bytes, count, row) && row.byteCount() < fewest) {
                    fewest = row.byteCount();
                    block[0] = codec;
                    System.arraycopy(row.bytes, 0, block, BLOCK_HEAD, fewest);
                }
            }
            block[1] = count;
            block[2] = fewest;
            blockSize = BLOCK_HEAD + fewest;
        }

        /** Room is how many bytes the block's sectors have. */
        boolean unpackBlock(int[] bytes, int room) {
            int codec = bytes[0];
            if (codec >= codecs.length || BLOCK_HEAD + bytes[2] > room) {
                return false;
            }
            rawSize = bytes[1];
            row.load(bytes, BLOCK_HEAD, bytes[2]);
            return codecs[codec].decode(row, raw, rawSize);
        }
    }
}
