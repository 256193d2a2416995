/**
 * What the tests of the promises share: the telling of wrong answers, devices in a wanted state, and
 * the document's sums, worked out apart from the class.
 */
abstract class Kit {
    static final int MIN = Integer.MIN_VALUE;
    static final int MAX = Integer.MAX_VALUE;
    static final int EMPTY = 0;
    static final int TRIED = 1;
    static final int TRIAL = 2;
    static final int CONFIRMED = 3;
    static final int CHECK_OF_NEW_RECORD = 180402452;

    private static String about = "";
    private static int subjects = 0;
    private static int answers = 0;
    private static int answersBefore = 0;
    private static int wrong = 0;

    /** Begins a test; the words stand before each of its wrong answers. */
    static void about(String words) {
        dueSomeAnswer();
        about = words;
        subjects++;
        answersBefore = answers;
    }

    static void due(String what, long got, long want) {
        answers++;
        if (got != want) {
            wrong++;
            System.out.println(about + "\n    " + what + " answered " + got + ", due is " + want);
        }
    }

    static void due(String what, boolean got, boolean want) {
        due(what, got ? 1 : 0, want ? 1 : 0);
    }

    static void end() {
        dueSomeAnswer();
        System.out.println(wrong == 0
                ? "all " + answers + " answers of " + subjects + " tests are as due"
                : wrong + " answers are not as due");
        if (wrong != 0) {
            System.exit(1);
        }
    }

    private static void dueSomeAnswer() {
        if (subjects > 0 && answers == answersBefore) {
            wrong++;
            System.out.println(about + "\n    this test looked at no answer");
        }
    }

    // Sums of the document.

    static int hash(int a, int b) {
        int x = (a ^ 1398175271) * 796343837 + b;
        x = x ^ (x >>> 13);
        x = x * 1398175271;
        return x ^ (x >>> 16);
    }

    /** The b for which hash(a, b) is that result. */
    static int second(int a, int result) {
        return beforeMixing(result) - (a ^ 1398175271) * 796343837;
    }

    /** The a for which hash(a, b) is that result. */
    static int first(int b, int result) {
        return (beforeMixing(result) - b) * inverse(796343837) ^ 1398175271;
    }

    private static int beforeMixing(int result) {
        int x = (result ^ (result >>> 16)) * inverse(1398175271);
        return x ^ (x >>> 13) ^ (x >>> 26);
    }

    private static int inverse(int odd) {
        int x = odd;
        for (int i = 0; i < 5; i++) {
            x = x * (2 - odd * x);
        }
        return x;
    }

    static int chainAt(int secret, int key, int chain, int place) {
        int x = hash(hash(secret, key), chain);
        for (int j = 0; j < place; j++) {
            x = hash(x, 16 * chain + j);
        }
        return x;
    }

    static int[] nodes(int secret) {
        int[] nodes = new int[16];
        for (int key = 0; key < 8; key++) {
            int leaf = key;
            for (int chain = 0; chain < 6; chain++) {
                leaf = hash(leaf, chainAt(secret, key, chain, 15));
            }
            nodes[8 + key] = leaf;
        }
        for (int n = 7; n >= 1; n--) {
            nodes[n] = hash(hash(nodes[2 * n], nodes[2 * n + 1]), n);
        }
        return nodes;
    }

    static int message(int version, int digest0, int digest1, int digest2) {
        return hash(hash(hash(hash(17, version), digest0), digest1), digest2);
    }

    static int[] digits(int message) {
        int d0 = message & 15;
        int d1 = message >>> 4 & 15;
        int d2 = message >>> 8 & 15;
        int d3 = message >>> 12 & 15;
        int c = 60 - d0 - d1 - d2 - d3;
        return new int[] {d0, d1, d2, d3, c % 16, c / 16};
    }

    /** The image of stage 2 with which a package of these other words comes to that message. */
    static int imageFor(int message, int version, int a, int b) {
        int before = hash(hash(hash(17, version), hash(a, 0)), hash(b, 1));
        return first(2, second(before, message));
    }

    /** A package that goes up to the root key without the maker. */
    static int[] forged(int root, int version, int key) {
        return forged(root, version, key, -1);
    }

    /**
     * The chains are as they come, the last path word is reckoned back from the root key. A key that
     * is none goes three steps up too. On the level that is turned, left and right change places.
     */
    static int[] forged(int root, int version, int key, int turned) {
        int[] p = {version, hash(5, 0), hash(6, 1), hash(7, 2), key, 1, 2, 3, 4, 5, 6, 11, 12, 0, 5, 6, 7};
        int[] digits = digits(message(p[0], p[1], p[2], p[3]));
        int value = key;
        for (int i = 0; i < 6; i++) {
            int x = p[5 + i];
            for (int j = digits[i]; j < 15; j++) {
                x = hash(x, 16 * i + j);
            }
            value = hash(value, x);
        }
        int node = 8 + key;
        for (int level = 0; level < 2; level++) {
            boolean isLeft = node % 2 == 0 != (level == turned);
            int neighbour = p[11 + level];
            value = hash(isLeft ? hash(value, neighbour) : hash(neighbour, value), node / 2);
            node = node / 2;
        }
        int pair = first(node / 2, root);
        boolean isLeft = node % 2 == 0 != (2 == turned);
        p[13] = isLeft ? second(value, pair) : first(value, pair);
        return p;
    }

    static int entry(int home, int state0, int state1) {
        return home + 2 * state0 + 8 * state1;
    }

    // Devices.

    static TrialSlots made() {
        return new TrialSlots(77, 1000);
    }

    static TrialSlots started() {
        TrialSlots x = made();
        x.boot();
        return x;
    }

    /** Slot 0 runs, and slot 1 holds a package of that version as a TRIAL. */
    static TrialSlots updated(int version) {
        TrialSlots x = started();
        x.sign(version, 5, 6, 7);
        x.update(0);
        return x;
    }

    /** Slot 1 runs on trial with a package of that version. */
    static TrialSlots trying(int version) {
        TrialSlots x = updated(version);
        x.boot();
        return x;
    }

    /** Slot 1 runs and is home, with a package of that version; slot 0 is CONFIRMED with version 1. */
    static TrialSlots confirmed(int version) {
        TrialSlots x = trying(version);
        x.confirm();
        return x;
    }

    /** Recovery runs because no state is CONFIRMED; package 0 is of version 3. */
    static TrialSlots recovering(int home) {
        TrialSlots x = made();
        x.sign(3, 5, 6, 7);
        pokeRecord(x, 0, 5, entry(home, EMPTY, EMPTY));
        x.boot();
        return x;
    }

    /** A device that is off, with a well package of version 1 in each slot and that table in record 0. */
    static TrialSlots withTable(int serial, int entry) {
        TrialSlots x = made();
        pokeSlot(x, 1, wordsOfSlot(x, 0));
        pokeRecord(x, 0, serial, entry);
        return x;
    }

    static int[] wordsOfSlot(TrialSlots x, int slot) {
        int[] words = new int[17];
        for (int i = 0; i < 17; i++) {
            words[i] = x.peek(17 * slot + i);
        }
        return words;
    }

    static int[] wordsOfPackage(TrialSlots x, int number) {
        int[] words = new int[17];
        for (int i = 0; i < 17; i++) {
            words[i] = x.word(number, i);
        }
        return words;
    }

    static void pokeSlot(TrialSlots x, int slot, int[] words) {
        for (int i = 0; i < 17; i++) {
            x.poke(17 * slot + i, words[i]);
        }
    }

    static void alterAll(TrialSlots x, int number, int[] words) {
        for (int i = 0; i < 17; i++) {
            x.alter(number, i, words[i]);
        }
    }

    static void pokeRecord(TrialSlots x, int record, int serial, int entry) {
        x.poke(34 + 3 * record, serial);
        x.poke(35 + 3 * record, entry);
        x.poke(36 + 3 * record, hash(hash(serial, entry), 5));
    }

    static void spoilRecord(TrialSlots x, int record) {
        x.poke(36 + 3 * record, x.peek(36 + 3 * record) ^ 1);
    }

    // Answers that are looked at together.

    static void dueRecord(TrialSlots x, int record, int serial, int entry) {
        due("serial of record " + record, x.peek(34 + 3 * record), serial);
        due("entry of record " + record, x.peek(35 + 3 * record), entry);
        due("check of record " + record, x.peek(36 + 3 * record), hash(hash(serial, entry), 5));
    }

    static void dueTable(TrialSlots x, int home, int state0, int state1) {
        due("home()", x.home(), home);
        due("state(0)", x.state(0), state0);
        due("state(1)", x.state(1), state1);
    }

    static void dueSlot(TrialSlots x, int slot, int[] words) {
        for (int i = 0; i < 17; i++) {
            due("peek(" + (17 * slot + i) + ")", x.peek(17 * slot + i), words[i]);
        }
    }

    static void dueOff(TrialSlots x) {
        due("running()", x.running(), TrialSlots.NONE);
        due("onTrial()", x.onTrial(), false);
        dueNothingLogged(x);
    }

    static void dueRuns(TrialSlots x, int what, boolean onTrial) {
        due("running()", x.running(), what);
        due("onTrial()", x.onTrial(), onTrial);
    }

    static void dueNothingLogged(TrialSlots x) {
        due("log(-1)", x.log(-1), 0);
        due("log(0)", x.log(0), 0);
        due("register()", x.register(), 0);
    }

    /** That the three stages of this slot's package, and no others, were entered. */
    static void dueLogged(TrialSlots x, int slot) {
        int register = 0;
        due("log(-1)", x.log(-1), 3);
        for (int stage = 0; stage < 3; stage++) {
            int digest = x.peek(17 * slot + 1 + stage);
            due("log(" + stage + ")", x.log(stage), digest);
            register = hash(register, digest);
        }
        due("register()", x.register(), register);
    }

    /** All that can be asked for without changing anything; it takes 172 calls. */
    static int[] everything(TrialSlots x) {
        int[] all = new int[172];
        int n = 0;
        for (int place = 0; place < 40; place++) {
            all[n++] = x.peek(place);
        }
        for (int number = 0; number < 7; number++) {
            for (int place = 0; place < 17; place++) {
                all[n++] = x.word(number, place);
            }
        }
        for (int k = -1; k < 3; k++) {
            all[n++] = x.log(k);
        }
        int[] rest = {x.running(), x.onTrial() ? 1 : 0, x.counter(), x.register(), x.writes(), x.home(),
            x.state(0), x.state(1), x.key()};
        for (int answer : rest) {
            all[n++] = answer;
        }
        return all;
    }

    static void dueUnchanged(TrialSlots x, int[] before) {
        int[] now = everything(x);
        int changed = 0;
        for (int i = 0; i < now.length; i++) {
            changed += now[i] == before[i] ? 0 : 1;
        }
        due("the count of changed answers", changed, 0);
    }
}
