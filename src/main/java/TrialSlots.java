/**
 * A device with two slots of signed software, as ../shared/DOC.md promises it. The numbers of the
 * promises stand at the public methods.
 */
public final class TrialSlots {
    public static final int NONE = -1;
    public static final int CUT = -1;
    public static final int REFUSED = -2;
    public static final int RECOVERY = 2;

    private static final int EMPTY = 0;
    private static final int TRIED = 1;
    private static final int TRIAL = 2;
    private static final int CONFIRMED = 3;

    private static final int STAGES = 3;
    private static final int LAST_VERSION = 32;
    private static final int FUSES = 32;

    // Key 0 signs what the device is delivered with, so this many packages can be made later.
    private static final int MOST_PACKAGES = Signature.KEYS - 1;

    private final Maker maker;
    private final Store store;

    // All packages lie in one row, so that a package and a slot are read by the same functions.
    private final int[] packages;
    private int packageCount;

    private int runningNow;
    private boolean trialNow;
    private final int[] entered;
    private int enteredCount;
    private int measured;

    /** Promise 1. */
    public TrialSlots(int secret, int image) {
        maker = new Maker(secret);
        int[] delivered = new int[PackageWords.COUNT];
        maker.pack(delivered, 0, 1, image, image + 1, image + 2);
        store = new Store(delivered);
        packages = new int[MOST_PACKAGES * PackageWords.COUNT];
        packageCount = 0;
        entered = new int[STAGES];
        runningNow = NONE;
        trialNow = false;
        enteredCount = 0;
        measured = 0;
    }

    /** Promise 2. */
    public int key() {
        return maker.root();
    }

    /** Promise 3. */
    public int sign(int version, int a, int b, int c) {
        if (!PackageWords.isVersion(version) || !maker.hasKeyLeft() || packageCount >= MOST_PACKAGES) {
            return NONE;
        }
        int number = packageCount;
        maker.pack(packages, packagePlace(number), version, a, b, c);
        packageCount++;
        return number;
    }

    /** Promise 4. */
    public boolean alter(int number, int place, int word) {
        if (!isPackageWord(number, place)) {
            return false;
        }
        packages[packagePlace(number) + place] = word;
        return true;
    }

    /** Promise 5. */
    public int word(int number, int place) {
        return isPackageWord(number, place) ? packages[packagePlace(number) + place] : 0;
    }

    /** Promise 6. */
    public int fault(int number) {
        if (!isPackage(number)) {
            return NONE;
        }
        return PackageWords.whatIsWrong(packages, packagePlace(number), maker.root());
    }

    /** Promise 7. */
    public boolean cut(int n) {
        if (n < Store.NO_CUT) {
            return false;
        }
        store.writesLeft = n;
        return true;
    }

    /** Promise 8. */
    public int update(int number) {
        if (!isPackage(number) || runningNow == NONE || trialNow) {
            return REFUSED;
        }
        int kept = runningNow == RECOVERY ? Table.homeIn(store.entry()) : runningNow;
        return replace(1 - kept, packagePlace(number)) ? 0 : powerLost();
    }

    /** Promise 9. */
    public int boot() {
        stop();
        int entry = store.entry();
        int trial = Table.trialIn(entry);
        if (trial != NONE) {
            if (!store.writeTable(Table.withState(entry, trial, TRIED))) {
                return powerLost();
            }
            if (attempt(trial)) {
                runningNow = trial;
                trialNow = true;
                return trial;
            }
        }
        return startConfirmed();
    }

    /** Promise 10. */
    public int confirm() {
        if (!trialNow) {
            return REFUSED;
        }
        int confirmed = Table.withState(store.entry(), runningNow, CONFIRMED);
        boolean written = store.writeTable(Table.withHome(confirmed, runningNow))
                && store.blowUpTo(store.versionIn(runningNow));
        if (!written) {
            return powerLost();
        }
        trialNow = false;
        return 0;
    }

    /** Promise 11. */
    public int running() {
        return runningNow;
    }

    /** Promise 12. */
    public boolean onTrial() {
        return trialNow;
    }

    /** Promise 13. */
    public int counter() {
        return store.blown;
    }

    /** Promise 14. */
    public int state(int slot) {
        return slot == 0 || slot == 1 ? Table.stateIn(store.entry(), slot) : -1;
    }

    /** Promise 15. */
    public int home() {
        return Table.homeIn(store.entry());
    }

    /** Promise 16. */
    public int peek(int place) {
        return Store.isPlace(place) ? store.words[place] : 0;
    }

    /** Promise 17. */
    public boolean poke(int place, int word) {
        if (!Store.isPlace(place)) {
            return false;
        }
        store.words[place] = word;
        return true;
    }

    /** Promise 18. */
    public int register() {
        return measured;
    }

    /** Promise 19. */
    public int log(int k) {
        if (k == -1) {
            return enteredCount;
        }
        return k >= 0 && k < enteredCount ? entered[k] : 0;
    }

    /** Promise 20. */
    public int writes() {
        return store.writesDone;
    }

    private boolean isPackage(int number) {
        return number >= 0 && number < packageCount;
    }

    private boolean isPackageWord(int number, int place) {
        return isPackage(number) && place >= 0 && place < PackageWords.COUNT;
    }

    private static int packagePlace(int number) {
        return number * PackageWords.COUNT;
    }

    private void stop() {
        runningNow = NONE;
        trialNow = false;
        forgetStages();
    }

    private int powerLost() {
        stop();
        return CUT;
    }

    private void forgetStages() {
        enteredCount = 0;
        measured = 0;
    }

    private boolean replace(int slot, int packagePlace) {
        int emptied = Table.withState(store.entry(), slot, EMPTY);
        return store.writeTable(Table.withHome(emptied, 1 - slot))
                && store.writePackage(slot, packages, packagePlace)
                // Read anew: the table written above is not the current one when its serial wrapped round.
                && store.writeTable(Table.withState(store.entry(), slot, TRIAL));
    }

    private int startConfirmed() {
        int first = Table.homeIn(store.entry());
        int slot = NONE;
        if (isConfirmed(first) && attempt(first)) {
            slot = first;
        } else if (isConfirmed(1 - first) && attempt(1 - first)) {
            slot = 1 - first;
        }
        if (slot == NONE) {
            forgetStages();
            runningNow = RECOVERY;
            return RECOVERY;
        }
        if (!store.blowUpTo(store.versionIn(slot))) {
            return powerLost();
        }
        runningNow = slot;
        return slot;
    }

    private boolean isConfirmed(int slot) {
        return Table.stateIn(store.entry(), slot) == CONFIRMED;
    }

    private boolean attempt(int slot) {
        forgetStages();
        int version = store.versionIn(slot);
        int base = Store.slotPlace(slot);
        if (!PackageWords.isVersion(version) || version < store.blown
                || !Signature.isSigned(store.words, base, maker.root())) {
            return false;
        }
        for (int stage = 0; stage < STAGES; stage++) {
            if (!PackageWords.isStageWhole(store.words, base, stage)) {
                return false;
            }
            enter(store.words[base + PackageWords.DIGESTS + stage]);
        }
        return true;
    }

    private void enter(int digest) {
        if (enteredCount < STAGES) {
            entered[enteredCount] = digest;
            enteredCount++;
        }
        measured = hash(measured, digest);
    }

    private static int hash(int a, int b) {
        int x = (a ^ 1398175271) * 796343837 + b;
        x = x ^ (x >>> 13);
        x = x * 1398175271;
        return x ^ (x >>> 16);
    }

    /** Where the words of a package lie, counted from its word 0, and what can be wrong with them. */
    private static final class PackageWords {
        private static final int COUNT = 17;
        private static final int DIGESTS = 1;
        private static final int KEY = 4;
        private static final int CHAINS = 5;
        private static final int PATH = 11;
        private static final int IMAGES = 14;

        private static final int WRONG_VERSION = 1;
        private static final int NOT_SIGNED = 2;
        private static final int WRONG_STAGE = 3;

        static boolean isVersion(int version) {
            return version >= 1 && version <= LAST_VERSION;
        }

        static void putStage(int[] words, int base, int stage, int image) {
            words[base + DIGESTS + stage] = digest(image, stage);
            words[base + IMAGES + stage] = image;
        }

        static boolean isStageWhole(int[] words, int base, int stage) {
            return words[base + DIGESTS + stage] == digest(words[base + IMAGES + stage], stage);
        }

        static int whatIsWrong(int[] words, int base, int root) {
            if (!isVersion(words[base])) {
                return WRONG_VERSION;
            }
            if (!Signature.isSigned(words, base, root)) {
                return NOT_SIGNED;
            }
            for (int stage = 0; stage < STAGES; stage++) {
                if (!isStageWhole(words, base, stage)) {
                    return WRONG_STAGE + stage;
                }
            }
            return 0;
        }

        private static int digest(int image, int stage) {
            return hash(image, stage);
        }
    }

    /** What the maker and the device both reckon: chains, digits, leaves and the way up the tree. */
    private static final class Signature {
        private static final int KEYS = 8;
        private static final int CHAINS = 6;
        private static final int END = 15;
        private static final int FIRST_LEAF = 8;
        private static final int LEVELS = 3;

        static int walk(int x, int chain, int from, int to) {
            int at = x;
            for (int place = from; place < to; place++) {
                at = hash(at, 16 * chain + place);
            }
            return at;
        }

        static int message(int[] words, int base) {
            int x = 17;
            for (int i = 0; i < PackageWords.KEY; i++) {
                x = hash(x, words[base + i]);
            }
            return x;
        }

        static int digit(int message, int chain) {
            if (chain < 4) {
                return (message >>> 4 * chain) & 15;
            }
            int rest = 60;
            for (int i = 0; i < 4; i++) {
                rest -= (message >>> 4 * i) & 15;
            }
            return chain == 4 ? rest & 15 : rest >>> 4;
        }

        static int above(int left, int right, int node) {
            return hash(hash(left, right), node);
        }

        static boolean isSigned(int[] words, int base, int root) {
            int key = words[base + PackageWords.KEY];
            return key >= 0 && key < KEYS && top(words, base, leaf(words, base, key)) == root;
        }

        private static int top(int[] words, int base, int leaf) {
            int node = FIRST_LEAF + words[base + PackageWords.KEY];
            int value = leaf;
            for (int level = 0; level < LEVELS; level++) {
                int neighbour = words[base + PackageWords.PATH + level];
                boolean isLeft = node % 2 == 0;
                node = node / 2;
                value = isLeft ? above(value, neighbour, node) : above(neighbour, value, node);
            }
            return value;
        }

        private static int leaf(int[] words, int base, int key) {
            int message = message(words, base);
            int x = key;
            for (int chain = 0; chain < CHAINS; chain++) {
                x = hash(x, walk(words[base + PackageWords.CHAINS + chain], chain, digit(message, chain), END));
            }
            return x;
        }
    }

    /** Who has the secret, and gives every key away once. */
    private static final class Maker {
        private final int secret;
        private final int[] nodes;
        private int nextKey;

        Maker(int secret) {
            this.secret = secret;
            nodes = new int[2 * Signature.FIRST_LEAF];
            nextKey = 0;
            for (int key = 0; key < Signature.KEYS; key++) {
                nodes[Signature.FIRST_LEAF + key] = leaf(secret, key);
            }
            for (int node = Signature.FIRST_LEAF - 1; node >= 1; node--) {
                nodes[node] = Signature.above(nodes[2 * node], nodes[2 * node + 1], node);
            }
        }

        int root() {
            return nodes[1];
        }

        boolean hasKeyLeft() {
            return nextKey < Signature.KEYS;
        }

        void pack(int[] words, int base, int version, int a, int b, int c) {
            words[base] = version;
            PackageWords.putStage(words, base, 0, a);
            PackageWords.putStage(words, base, 1, b);
            PackageWords.putStage(words, base, 2, c);
            words[base + PackageWords.KEY] = nextKey;
            putChains(words, base);
            putPath(words, base);
            nextKey++;
        }

        private void putChains(int[] words, int base) {
            int message = Signature.message(words, base);
            for (int chain = 0; chain < Signature.CHAINS; chain++) {
                int start = chainStart(secret, nextKey, chain);
                words[base + PackageWords.CHAINS + chain] =
                        Signature.walk(start, chain, 0, Signature.digit(message, chain));
            }
        }

        private void putPath(int[] words, int base) {
            int node = Signature.FIRST_LEAF + nextKey;
            for (int level = 0; level < Signature.LEVELS; level++) {
                words[base + PackageWords.PATH + level] = nodes[node ^ 1];
                node = node / 2;
            }
        }

        private static int leaf(int secret, int key) {
            int x = key;
            for (int chain = 0; chain < Signature.CHAINS; chain++) {
                x = hash(x, Signature.walk(chainStart(secret, key, chain), chain, 0, Signature.END));
            }
            return x;
        }

        private static int chainStart(int secret, int key, int chain) {
            return hash(hash(secret, key), chain);
        }
    }

    /** The meaning of a record's entry. */
    private static final class Table {
        private static final int BITS = 31;

        static int homeIn(int entry) {
            return entry & 1;
        }

        static int stateIn(int entry, int slot) {
            return (entry >>> shift(slot)) & 3;
        }

        static int withHome(int entry, int slot) {
            return (entry & ~1) | slot;
        }

        static int withState(int entry, int slot, int state) {
            return (entry & ~(3 << shift(slot))) | (state << shift(slot));
        }

        static int trialIn(int entry) {
            int home = homeIn(entry);
            if (stateIn(entry, 1 - home) == TRIAL) {
                return 1 - home;
            }
            return stateIn(entry, home) == TRIAL ? home : NONE;
        }

        private static int shift(int slot) {
            return 1 + 2 * slot;
        }
    }

    /** What outlives the loss of power: words and fuses, and the count of writes until it is lost. */
    private static final class Store {
        private static final int WORDS = 40;
        private static final int FIRST_RECORD = 34;
        private static final int RECORD_WORDS = 3;
        private static final int NO_CUT = -1;

        private final int[] words;
        private int blown;
        private int writesDone;
        private int writesLeft;

        Store(int[] delivered) {
            words = new int[WORDS];
            System.arraycopy(delivered, 0, words, 0, PackageWords.COUNT);
            words[FIRST_RECORD] = 1;
            words[FIRST_RECORD + 1] = 6;
            words[FIRST_RECORD + 2] = check(1, 6);
            blown = 1;
            writesDone = 0;
            writesLeft = NO_CUT;
        }

        static boolean isPlace(int place) {
            return place >= 0 && place < WORDS;
        }

        static int slotPlace(int slot) {
            return slot * PackageWords.COUNT;
        }

        int versionIn(int slot) {
            return words[slotPlace(slot)];
        }

        /** The entry of the current record; 0 says what holds without one. */
        int entry() {
            int record = currentRecord();
            return record == NONE ? 0 : words[recordPlace(record) + 1];
        }

        /** Like the other writing methods: false when the power was cut on the way. */
        boolean writeTable(int entry) {
            int record = currentRecord();
            int serial = record == NONE ? 1 : words[recordPlace(record)] + 1;
            int place = recordPlace(record == 0 ? 1 : 0);
            int kept = entry & Table.BITS;
            return put(place, serial) && put(place + 1, kept) && put(place + 2, check(serial, kept));
        }

        boolean writePackage(int slot, int[] source, int base) {
            int place = slotPlace(slot);
            for (int i = 0; i < PackageWords.COUNT; i++) {
                if (!put(place + i, source[base + i])) {
                    return false;
                }
            }
            return true;
        }

        boolean blowUpTo(int version) {
            int goal = Math.min(version, FUSES);
            for (int fuse = blown; fuse < goal; fuse++) {
                if (!mayWrite()) {
                    return false;
                }
                blown++;
            }
            return true;
        }

        private boolean put(int place, int word) {
            if (!mayWrite()) {
                return false;
            }
            words[place] = word;
            return true;
        }

        private boolean mayWrite() {
            if (writesLeft == 0) {
                writesLeft = NO_CUT;
                return false;
            }
            if (writesLeft > 0) {
                writesLeft--;
            }
            writesDone++;
            return true;
        }

        private int currentRecord() {
            boolean good0 = isGood(0);
            boolean good1 = isGood(1);
            if (good0 && good1) {
                return words[recordPlace(1)] > words[recordPlace(0)] ? 1 : 0;
            }
            if (good0) {
                return 0;
            }
            return good1 ? 1 : NONE;
        }

        private boolean isGood(int record) {
            int place = recordPlace(record);
            return words[place + 2] == check(words[place], words[place + 1]);
        }

        private static int recordPlace(int record) {
            return FIRST_RECORD + RECORD_WORDS * record;
        }

        private static int check(int serial, int entry) {
            return hash(hash(serial, entry), 5);
        }
    }
}
