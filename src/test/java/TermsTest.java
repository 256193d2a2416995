/**
 * The boundary cases that stand under "What it is" and "Terms" in the document. Each test bears the
 * sentence that would not hold if it failed.
 */
public final class TermsTest extends Kit {
    private static final int MOST_CALLS = 512;

    public static void main(String[] args) {
        whatItIs();
        ints();
        signatures();
        packages();
        store();
        writes();
        starting();
        attempt();
        end();
    }

    private static void whatItIs() {
        fiveHundredAndTwelveCalls();
        mostWritesOfOneObject();
        laterCalls();
    }

    private static void fiveHundredAndTwelveCalls() {
        about("An object is used for at most 512 calls after it has been made");
        TrialSlots x = made();
        due("boot(), call 1", x.boot(), 0);
        due("sign(1, 5, 6, 7), call 2", x.sign(1, 5, 6, 7), 0);
        int calls = 2;
        int slot = 0;
        while (calls < MOST_CALLS - 3) {
            slot = 1 - slot;
            due("update(0) after " + calls + " calls", x.update(0), 0);
            due("boot() after " + (calls + 1) + " calls", x.boot(), slot);
            due("confirm() after " + (calls + 2) + " calls", x.confirm(), 0);
            calls += 3;
        }
        int rounds = (calls - 2) / 3;
        due("the calls before the last three", calls, MOST_CALLS - 3);
        due("peek(34), call 510", x.peek(34), 1 + 4 * rounds);
        due("home(), call 511", x.home(), slot);
        due("writes(), call 512", x.writes(), 29 * rounds);
    }

    private static void mostWritesOfOneObject() {
        about("An object is used for at most 512 calls after it has been made (as many writes as they can do)");
        TrialSlots x = made();
        x.boot();
        x.sign(1, 5, 6, 7);
        int updates = MOST_CALLS - 5;
        for (int i = 0; i < updates; i++) {
            due("update(0), the " + (i + 1) + "th", x.update(0), 0);
        }
        due("peek(34), call 510", x.peek(34), 1 + 2 * updates);
        due("writes(), call 511", x.writes(), 23 * updates);
        due("boot(), call 512", x.boot(), 1);
    }

    private static void laterCalls() {
        about("what later calls answer is free (but none may throw, says LANGUAGE.md)");
        TrialSlots x = made();
        int ended = 0;
        for (int i = 0; i < 4 * MOST_CALLS; i++) {
            x.sign(1 + i % 32, i, i, i);
            x.alter(i % 9 - 1, i % 19 - 1, i);
            x.boot();
            x.update(i % 9 - 1);
            x.cut(i % 50 - 2);
            x.boot();
            x.confirm();
            x.poke(i % 42 - 1, i);
            x.fault(i % 9 - 1);
            x.log(i % 6 - 2);
            ended++;
        }
        due("rounds that ended", ended, 4 * MOST_CALLS);
    }

    private static void ints() {
        sumsOfInt();
        hashOfEdges();
    }

    private static void sumsOfInt() {
        about("All words are ints; sums, products and shifts are those of int.");
        int[] images = {MAX, MAX - 1, -1, -2, MIN};
        for (int image : images) {
            TrialSlots x = new TrialSlots(MIN, image);
            for (int stage = 0; stage < 3; stage++) {
                due("image " + stage + " from " + image + " on", x.peek(14 + stage), image + stage);
                due("digest " + stage, x.peek(1 + stage), hash(image + stage, stage));
            }
            due("boot() from image " + image + " on", x.boot(), 0);
        }
        int[] serials = {MAX, -1, MIN, MAX - 1, -2};
        for (int serial : serials) {
            TrialSlots x = withTable(serial, entry(0, CONFIRMED, TRIAL));
            x.boot();
            dueRecord(x, 1, serial + 1, entry(0, CONFIRMED, TRIED));
        }
    }

    private static void hashOfEdges() {
        about("H(a, b) is worked out so");
        // Image, and its digests as stage 0, 1 and 2, worked out by a script apart from the class.
        int[][] known = {
            {0, 584290672, 684751358, 2082913139},
            {1, -278925207, 1119213544, -974114260},
            {-1, -429798488, -1828051800, 1068793551},
            {MIN, 2070923468, -2123575230, -725478505},
            {MAX, -1916428276, 980323788, -417814941},
            {1398175271, 0, 1398154609, -1498658078},
            {-1398175272, 1043633175, 1144062879, -1752749486}};
        TrialSlots x = made();
        for (int number = 0; number < known.length; number++) {
            int v = known[number][0];
            x.sign(1, v, v, v);
            for (int stage = 0; stage < 3; stage++) {
                due("H(" + v + ", " + stage + ")", x.word(number, 1 + stage), known[number][1 + stage]);
            }
        }
        due("H(H(1, 6), 5)", x.peek(36), CHECK_OF_NEW_RECORD);
    }

    private static void signatures() {
        eightKeys();
        secretsAtTheEdges();
        beginningOfChain();
        endOfChain();
        leavesAndNodes();
    }

    private static void eightKeys() {
        about("The maker has a SECRET and eight KEYS 0 .. 7, each good for one signature.");
        TrialSlots x = made();
        due("key of the delivered package", x.peek(4), 0);
        for (int key = 1; key <= 7; key++) {
            due("sign with key " + key, x.sign(1, 0, 0, 0), key - 1);
            due("its key", x.word(key - 1, 4), key);
            due("its fault", x.fault(key - 1), 0);
        }
        due("sign with a ninth key", x.sign(1, 0, 0, 0), TrialSlots.NONE);
    }

    private static void secretsAtTheEdges() {
        about("Node 1 is the device's ROOT KEY.");
        int[][] known = {{77, 207489437}, {0, 302900908}, {-1, 1850602293}, {1, 952354312},
            {MIN, -1288171842}, {MAX, 1234959004}};
        for (int[] secretAndRoot : known) {
            due("key() of " + secretAndRoot[0], new TrialSlots(secretAndRoot[0], 3).key(), secretAndRoot[1]);
        }
    }

    /** A package signed with key 1 of secret 77 so that its message has these 16 bits. */
    private static TrialSlots withMessage(int message) {
        TrialSlots x = made();
        x.sign(9, 5, 6, imageFor(message, 9, 5, 6));
        return x;
    }

    private static void beginningOfChain() {
        about("place 0 is the beginning");
        TrialSlots x = withMessage(0xABCD0000);
        for (int chain = 0; chain < 4; chain++) {
            due("chain " + chain + " at place 0", x.word(0, 5 + chain), hash(hash(77, 1), chain));
        }
        due("fault(0), all fifteen steps being left", x.fault(0), 0);
        x.alter(0, 5, chainAt(77, 1, 0, 1));
        due("fault(0), one step too far", x.fault(0), 2);
    }

    private static void endOfChain() {
        about("place 15 the END");
        TrialSlots x = withMessage(0xABCDFFFF);
        for (int chain = 0; chain < 4; chain++) {
            due("chain " + chain + " at place 15", x.word(0, 5 + chain), chainAt(77, 1, chain, 15));
        }
        due("fault(0), no step being left", x.fault(0), 0);
        x.alter(0, 8, chainAt(77, 1, 3, 14));
        due("fault(0), one step short", x.fault(0), 2);
    }

    private static void leavesAndNodes() {
        about("NODES 8 .. 15 are the leaves of keys 0 .. 7, and node n from 7 down to 1 is");
        int[] nodes = nodes(77);
        TrialSlots x = made();
        due("node 9", x.peek(11), nodes[9]);
        due("node 5", x.peek(12), nodes[5]);
        due("node 3", x.peek(13), nodes[3]);
        for (int key = 1; key <= 7; key++) {
            int number = x.sign(1, key, 0, 0);
            due("node " + (8 + key ^ 1), x.word(number, 11), nodes[8 + key ^ 1]);
        }
        due("node 4", x.word(1, 12), nodes[4]);
        due("node 2", x.word(6, 13), nodes[2]);
        due("node 6", x.word(6, 12), nodes[6]);
        due("node 1", x.key(), nodes[1]);
    }

    private static void packages() {
        digitsAtTheEdges();
        keyOutside();
        leftAndRight();
        orderOfThePath();
    }

    private static void digitsAtTheEdges() {
        about("with c = 60 minus the sum of these four, digit 4 is c & 15 and digit 5 is c >>> 4.");
        // The 16 bits, and the digits 4 and 5: c is 60, 0, 15, 16, 31, 32, 47, 48 and 45.
        int[][] known = {{0x0000, 12, 3}, {0xFFFF, 0, 0}, {0xFFF0, 15, 0}, {0xEFF0, 0, 1}, {0xFE00, 15, 1},
            {0xEE00, 0, 2}, {0x000D, 15, 2}, {0x00C0, 0, 3}, {0xF000, 13, 2}};
        for (int[] bits : known) {
            dueLastChains(bits[0], bits[1], bits[2]);
            dueLastChains(bits[0] | 0xFFFF0000, bits[1], bits[2]);
        }
    }

    private static void dueLastChains(int message, int digit4, int digit5) {
        TrialSlots x = withMessage(message);
        String of = " of message " + Integer.toHexString(message);
        for (int chain = 0; chain < 4; chain++) {
            due("chain " + chain + of, x.word(0, 5 + chain), chainAt(77, 1, chain, message >>> 4 * chain & 15));
        }
        due("chain 4" + of, x.word(0, 9), chainAt(77, 1, 4, digit4));
        due("chain 5" + of, x.word(0, 10), chainAt(77, 1, 5, digit5));
        due("fault(0)" + of, x.fault(0), 0);
    }

    private static void keyOutside() {
        about("A package is SIGNED when q is 0 .. 7");
        for (int key = -17; key <= 17; key++) {
            dueFaultOfForged(key, key >= 0 && key <= 7 ? 0 : 2);
        }
        int[] far = {MIN, MIN + 1, MAX - 8, MAX - 7, MAX, 1 << 16, -(1 << 16)};
        for (int key : far) {
            dueFaultOfForged(key, 2);
        }
    }

    private static void dueFaultOfForged(int key, int want) {
        TrialSlots x = made();
        x.sign(3, 5, 6, 7);
        alterAll(x, 0, forged(x.key(), 3, key));
        due("fault(0) of what comes to the root key from key " + key, x.fault(0), want);
    }

    private static void leftAndRight() {
        about("the one with the even number being the left");
        for (int key = 0; key <= 7; key++) {
            TrialSlots x = made();
            x.sign(3, 5, 6, 7);
            alterAll(x, 0, forged(x.key(), 3, key));
            due("fault(0) from key " + key, x.fault(0), 0);
            for (int level = 0; level < 3; level++) {
                alterAll(x, 0, forged(x.key(), 3, key, level));
                due("fault(0) from key " + key + ", turned on level " + level, x.fault(0), 2);
            }
        }
    }

    private static void orderOfThePath() {
        about("(path word 11 first, then 12, then 13)");
        int[][] swaps = {{11, 12}, {12, 13}, {11, 13}};
        for (int[] swap : swaps) {
            TrialSlots x = made();
            x.sign(3, 5, 6, 7);
            int kept = x.word(0, swap[0]);
            x.alter(0, swap[0], x.word(0, swap[1]));
            x.alter(0, swap[1], kept);
            due("fault(0), words " + swap[0] + " and " + swap[1] + " swapped", x.fault(0), 2);
        }
    }

    private static void store() {
        layout();
        goodRecord();
        recordOfZeros();
        onlyGoodRecord();
        greaterSerial();
        serialsAlike();
        bitsOfTheEntry();
        noGoodRecord();
        states();
        fuses();
    }

    private static void layout() {
        about("Words 0 .. 16 are SLOT 0, words 17 .. 33 SLOT 1 (a package each), words 34, 35, 36 RECORD 0,"
                + " words 37, 38, 39 RECORD 1.");
        for (int slot = 0; slot < 2; slot++) {
            TrialSlots x = recovering(1 - slot);
            int[] words = new int[17];
            for (int i = 0; i < 17; i++) {
                words[i] = 900 + i;
            }
            alterAll(x, 0, words);
            int[] other = wordsOfSlot(x, 1 - slot);
            due("update(0) into slot " + slot, x.update(0), 0);
            dueSlot(x, slot, words);
            dueSlot(x, 1 - slot, other);
            dueRecord(x, 1, 6, entry(1 - slot, EMPTY, EMPTY));
            dueRecord(x, 0, 7, slot == 0 ? entry(1, TRIAL, EMPTY) : entry(0, EMPTY, TRIAL));
        }
    }

    private static void goodRecord() {
        about("it is GOOD when its check is H(H(serial, entry), 5)");
        for (int record = 0; record < 2; record++) {
            TrialSlots x = made();
            spoilRecord(x, 0);
            pokeRecord(x, record, 4, entry(1, CONFIRMED, CONFIRMED));
            due("state(0) by record " + record, x.state(0), CONFIRMED);
            for (int place = 34 + 3 * record; place < 37 + 3 * record; place++) {
                int word = x.peek(place);
                for (int bit = 0; bit < 32; bit++) {
                    x.poke(place, word ^ 1 << bit);
                    due("state(0), bit " + bit + " of word " + place + " being wrong", x.state(0), EMPTY);
                }
                x.poke(place, word);
            }
            due("state(0) by record " + record + " again", x.state(0), CONFIRMED);
        }
    }

    private static void recordOfZeros() {
        about("it is GOOD when its check is H(H(serial, entry), 5) (and a record of zeros is not)");
        TrialSlots x = made();
        pokeRecord(x, 0, -1, entry(1, TRIED, TRIED));
        dueTable(x, 1, TRIED, TRIED);
        pokeRecord(x, 1, -2, entry(0, TRIAL, TRIAL));
        for (int place = 34; place < 37; place++) {
            x.poke(place, 0);
        }
        dueTable(x, 0, TRIAL, TRIAL);
    }

    private static void onlyGoodRecord() {
        about("The CURRENT record is the good one");
        int[] serials = {MAX, 6, 5, 4, MIN};
        for (int spoilt = 0; spoilt < 2; spoilt++) {
            for (int serial : serials) {
                TrialSlots x = made();
                pokeRecord(x, spoilt, serial, entry(1, CONFIRMED, TRIED));
                spoilRecord(x, spoilt);
                pokeRecord(x, 1 - spoilt, 5, entry(0, TRIED, TRIAL));
                dueTable(x, 0, TRIED, TRIAL);
            }
        }
    }

    private static void greaterSerial() {
        about("of two good ones the one with the greater serial");
        int[][] lessAndGreater = {{1, 2}, {0, 1}, {-1, 0}, {-2, -1}, {MIN, MAX}, {MIN, 0}, {MIN, 1}, {-1, MAX},
            {-2, MAX}, {MAX - 1, MAX}, {MIN, MIN + 1}, {MIN, -1}};
        for (int[] pair : lessAndGreater) {
            for (int greater = 0; greater < 2; greater++) {
                TrialSlots x = made();
                pokeRecord(x, 1 - greater, pair[0], entry(0, CONFIRMED, EMPTY));
                pokeRecord(x, greater, pair[1], entry(1, TRIED, TRIAL));
                dueTable(x, 1, TRIED, TRIAL);
            }
        }
    }

    private static void serialsAlike() {
        about("record 0 when they are alike");
        int[] serials = {0, 1, -1, MIN, MAX};
        for (int serial : serials) {
            TrialSlots x = made();
            pokeRecord(x, 0, serial, entry(0, TRIED, TRIAL));
            pokeRecord(x, 1, serial, entry(1, EMPTY, CONFIRMED));
            dueTable(x, 0, TRIED, TRIAL);
        }
    }

    private static void bitsOfTheEntry() {
        about("its bit 0 is the HOME slot, its bits 1 and 2 the STATE of slot 0, its bits 3 and 4 that of slot 1"
                + " (other bits are not looked at)");
        int[] others = {0, -32, MIN, 32, 64, 0x55555540};
        for (int other : others) {
            TrialSlots x = made();
            for (int bits = 0; bits < 32; bits++) {
                pokeRecord(x, 0, 1, bits | other);
                dueTable(x, bits % 2, bits / 2 % 4, bits / 8);
            }
        }
    }

    private static void noGoodRecord() {
        about("Without a good record both states are EMPTY, home is 0, and the serial counts as 0.");
        TrialSlots x = started();
        x.sign(3, 5, 6, 7);
        for (int record = 0; record < 2; record++) {
            pokeRecord(x, record, 50 + record, entry(1, CONFIRMED, CONFIRMED));
            spoilRecord(x, record);
        }
        dueTable(x, 0, EMPTY, EMPTY);
        due("boot()", x.boot(), TrialSlots.RECOVERY);
        due("writes()", x.writes(), 0);
        due("update(0), into slot 1 as home is 0", x.update(0), 0);
        due("peek(17)", x.peek(17), 3);
        dueRecord(x, 0, 1, entry(0, EMPTY, EMPTY));
        dueRecord(x, 1, 2, entry(0, EMPTY, TRIAL));
    }

    private static void states() {
        about("STATES: 0 EMPTY, 1 TRIED, 2 TRIAL, 3 CONFIRMED.");
        for (int slot = 0; slot < 2; slot++) {
            for (int home = 0; home < 2; home++) {
                for (int state = 0; state < 4; state++) {
                    TrialSlots x = withTable(9, home | state << 1 + 2 * slot);
                    due("boot(), slot " + slot + " being " + state + " and home " + home, x.boot(),
                            state >= TRIAL ? slot : TrialSlots.RECOVERY);
                    due("onTrial()", x.onTrial(), state == TRIAL);
                    due("state(" + slot + ")", x.state(slot), state == TRIAL ? TRIED : state);
                }
            }
        }
    }

    private static void fuses() {
        about("FUSES: 32 of them, which can be blown one by one; the COUNTER is how many are blown.");
        for (int n = 0; n < 31; n++) {
            TrialSlots x = trying(32);
            x.cut(3 + n);
            due("confirm() cut after " + n + " fuses", x.confirm(), TrialSlots.CUT);
            due("counter()", x.counter(), 1 + n);
        }
        TrialSlots x = confirmed(32);
        due("counter()", x.counter(), 32);
        x.sign(32, 1, 2, 3);
        x.update(1);
        x.boot();
        x.cut(3);
        due("confirm(), no fuse being left to blow", x.confirm(), 0);
        due("counter()", x.counter(), 32);
    }

    private static void writes() {
        countOfWrites();
        cutAtTheNextWrite();
        offAtOnce();
        cutOnlyOnce();
        recordNotCurrent();
        recordNotCurrentTwice();
        recordZeroWithoutGoodOne();
        threeWritesInOrder();
        lastSerial();
        upperBitsOfNewEntry();
        readAtThatMoment();
        elseAsBefore();
        elseAsBeforeAfterLastSerial();
    }

    private static void countOfWrites() {
        about("One word put into the store is a write, and one fuse blown is one.");
        TrialSlots x = updated(4);
        due("writes() of update", x.writes(), 3 + 17 + 3);
        x.boot();
        due("writes() of the trial's start", x.writes(), 23 + 3);
        x.confirm();
        due("writes() of confirm", x.writes(), 26 + 3 + 3);
        x.boot();
        due("writes() of a start that needs none", x.writes(), 32);
    }

    private static void cutAtTheNextWrite() {
        about("so many writes are done from then on, and when the next one is to be done it is not done");
        for (int n = 0; n <= 23; n++) {
            TrialSlots x = started();
            x.sign(3, 5, 6, 7);
            x.cut(n);
            due("update(0) cut at " + n, x.update(0), n < 23 ? TrialSlots.CUT : 0);
            due("writes() cut at " + n, x.writes(), n);
            due("running() cut at " + n, x.running(), n < 23 ? TrialSlots.NONE : 0);
        }
        TrialSlots y = started();
        y.cut(0);
        due("boot(), which needs no write", y.boot(), 0);
        y.sign(3, 5, 6, 7);
        due("update(0), which needs one", y.update(0), TrialSlots.CUT);
        due("peek(37), the write that is not done", y.peek(37), 0);
    }

    private static void offAtOnce() {
        about("the device is OFF then, the call ends at once and answers CUT");
        TrialSlots updating = started();
        updating.sign(3, 5, 6, 7);
        updating.cut(10);
        due("update(0)", updating.update(0), TrialSlots.CUT);
        dueOff(updating);
        due("peek(23), the last write", updating.peek(23), updating.word(0, 6));
        due("peek(24)", updating.peek(24), 0);
        due("state(1)", updating.state(1), EMPTY);

        TrialSlots starting = updated(3);
        starting.cut(2);
        due("boot()", starting.boot(), TrialSlots.CUT);
        dueOff(starting);
        due("state(1)", starting.state(1), TRIAL);

        TrialSlots confirming = trying(9);
        confirming.cut(2);
        due("confirm()", confirming.confirm(), TrialSlots.CUT);
        dueOff(confirming);
        due("counter()", confirming.counter(), 1);
        due("confirm(), the device being off", confirming.confirm(), TrialSlots.REFUSED);
    }

    private static void cutOnlyOnce() {
        about("and no cut is set any more");
        TrialSlots x = started();
        x.sign(3, 5, 6, 7);
        x.cut(2);
        due("update(0)", x.update(0), TrialSlots.CUT);
        due("boot()", x.boot(), 0);
        due("update(0) again", x.update(0), 0);
        due("boot() again", x.boot(), 1);
        x.cut(0);
        due("confirm()", x.confirm(), TrialSlots.CUT);
        due("boot()", x.boot(), 0);
        due("update(0) once more", x.update(0), 0);
        x.cut(1);
        due("boot()", x.boot(), TrialSlots.CUT);
        due("boot() again", x.boot(), 1);
        due("confirm() again", x.confirm(), 0);
    }

    private static void recordNotCurrent() {
        about("A new table is WRITTEN to the record that is not current when its writing begins");
        int[][] serials = {{7, 6}, {6, 7}, {7, 7}, {MIN, MAX - 1}, {-1, -2}};
        for (int[] pair : serials) {
            TrialSlots x = withTable(pair[0], entry(0, CONFIRMED, TRIAL));
            pokeRecord(x, 1, pair[1], entry(0, CONFIRMED, TRIAL));
            int current = pair[1] > pair[0] ? 1 : 0;
            due("boot(), record " + current + " being current", x.boot(), 1);
            dueRecord(x, current, pair[current], entry(0, CONFIRMED, TRIAL));
            dueRecord(x, 1 - current, pair[current] + 1, entry(0, CONFIRMED, TRIED));
        }
        for (int spoilt = 0; spoilt < 2; spoilt++) {
            TrialSlots x = withTable(3, entry(0, CONFIRMED, TRIAL));
            pokeRecord(x, 1, 3, entry(0, CONFIRMED, TRIAL));
            x.poke(34 + 3 * spoilt, 1000);
            due("boot(), record " + spoilt + " not being good", x.boot(), 1);
            dueRecord(x, 1 - spoilt, 3, entry(0, CONFIRMED, TRIAL));
            dueRecord(x, spoilt, 4, entry(0, CONFIRMED, TRIED));
        }
    }

    private static void recordNotCurrentTwice() {
        about("A new table is WRITTEN to the record that is not current when its writing begins"
                + " (twice in one call)");
        TrialSlots x = updated(3);
        dueRecord(x, 1, 2, entry(0, CONFIRMED, EMPTY));
        dueRecord(x, 0, 3, entry(0, CONFIRMED, TRIAL));
        x.update(0);
        dueRecord(x, 1, 4, entry(0, CONFIRMED, EMPTY));
        dueRecord(x, 0, 5, entry(0, CONFIRMED, TRIAL));
    }

    private static void recordZeroWithoutGoodOne() {
        about("(record 0 without a good one)");
        TrialSlots x = started();
        x.sign(3, 5, 6, 7);
        x.poke(34, 40);
        x.poke(37, 60);
        x.cut(3);
        due("update(0)", x.update(0), TrialSlots.CUT);
        dueRecord(x, 0, 1, entry(0, EMPTY, EMPTY));
        due("peek(37)", x.peek(37), 60);

        TrialSlots y = trying(3);
        spoilRecord(y, 0);
        spoilRecord(y, 1);
        due("confirm()", y.confirm(), 0);
        dueRecord(y, 0, 1, entry(1, EMPTY, CONFIRMED));
    }

    private static void threeWritesInOrder() {
        about("by three writes: the current serial + 1, then the entry (bits 5 to 31 are 0), then the check");
        int check = hash(hash(8, entry(0, CONFIRMED, TRIED)), 5);
        for (int n = 0; n <= 3; n++) {
            TrialSlots x = withTable(7, entry(0, CONFIRMED, TRIAL));
            for (int place = 37; place < 40; place++) {
                x.poke(place, 5000);
            }
            x.cut(n);
            due("boot() cut at " + n, x.boot(), n < 3 ? TrialSlots.CUT : 1);
            due("peek(37) cut at " + n, x.peek(37), n < 1 ? 5000 : 8);
            due("peek(38) cut at " + n, x.peek(38), n < 2 ? 5000 : entry(0, CONFIRMED, TRIED));
            due("peek(39) cut at " + n, x.peek(39), n < 3 ? 5000 : check);
        }
    }

    private static void lastSerial() {
        about("the current serial + 1 (after the greatest int)");
        TrialSlots x = withTable(MAX, entry(0, CONFIRMED, TRIAL));
        due("boot()", x.boot(), 1);
        due("onTrial()", x.onTrial(), true);
        dueRecord(x, 1, MIN, entry(0, CONFIRMED, TRIED));
        due("state(1), by record 0, whose serial is greater", x.state(1), TRIAL);
        due("boot() again, which finds the TRIAL again", x.boot(), 1);
        due("onTrial()", x.onTrial(), true);
        dueRecord(x, 0, MAX, entry(0, CONFIRMED, TRIAL));
        due("confirm()", x.confirm(), 0);
        dueRecord(x, 1, MIN, entry(1, CONFIRMED, CONFIRMED));
        dueTable(x, 0, CONFIRMED, TRIAL);
        due("writes()", x.writes(), 9);

        TrialSlots y = withTable(1, entry(0, EMPTY, EMPTY));
        pokeRecord(y, 1, MAX, entry(0, CONFIRMED, TRIAL));
        due("boot(), record 1 being current", y.boot(), 1);
        dueRecord(y, 0, MIN, entry(0, CONFIRMED, TRIED));
        dueTable(y, 0, CONFIRMED, TRIAL);

        TrialSlots z = withTable(-1, entry(0, CONFIRMED, TRIAL));
        due("boot() with serial -1", z.boot(), 1);
        dueRecord(z, 1, 0, entry(0, CONFIRMED, TRIED));
        due("state(1), by record 1 with serial 0", z.state(1), TRIED);
    }

    private static void upperBitsOfNewEntry() {
        about("then the entry (bits 5 to 31 are 0)");
        int[] others = {-32, MIN, 32};
        for (int other : others) {
            TrialSlots x = withTable(7, entry(0, CONFIRMED, TRIAL) | other);
            due("boot()", x.boot(), 1);
            dueRecord(x, 1, 8, entry(0, CONFIRMED, TRIED));
            pokeRecord(x, 0, 20, entry(0, CONFIRMED, TRIED) | other);
            due("confirm()", x.confirm(), 0);
            dueRecord(x, 1, 21, entry(1, CONFIRMED, CONFIRMED));
            x.sign(3, 5, 6, 7);
            pokeRecord(x, 0, 30, entry(1, CONFIRMED, CONFIRMED) | other);
            due("update(0)", x.update(0), 0);
            dueRecord(x, 1, 31, entry(1, EMPTY, CONFIRMED));
            dueRecord(x, 0, 32, entry(1, TRIAL, CONFIRMED));
        }
    }

    private static void readAtThatMoment() {
        about("What is in a slot or a record is always read from the store as it is at that moment");
        TrialSlots x = trying(3);
        x.poke(17, 6);
        due("confirm(), the version being poked meanwhile", x.confirm(), 0);
        due("counter()", x.counter(), 6);
        TrialSlots y = updated(3);
        y.poke(31, 6);
        due("boot(), the image being poked meanwhile", y.boot(), 0);
        TrialSlots z = recovering(0);
        pokeRecord(z, 0, 9, entry(1, EMPTY, EMPTY));
        due("update(0), home being poked meanwhile", z.update(0), 0);
        due("peek(0)", z.peek(0), 3);
        due("peek(17)", z.peek(17), 0);
        pokeRecord(z, 1, 90, entry(0, TRIAL, CONFIRMED));
        dueTable(z, 0, TRIAL, CONFIRMED);
    }

    private static void elseAsBefore() {
        about("\"all else as before\" means as in the table when the writing of the new one begins");
        TrialSlots x = trying(3);
        pokeRecord(x, 0, 40, entry(0, TRIAL, EMPTY));
        due("confirm(), the table being poked meanwhile", x.confirm(), 0);
        dueRecord(x, 1, 41, entry(1, TRIAL, CONFIRMED));

        TrialSlots y = started();
        y.sign(3, 5, 6, 7);
        pokeRecord(y, 0, 40, entry(1, TRIED, CONFIRMED));
        due("update(0), the table being poked meanwhile", y.update(0), 0);
        dueRecord(y, 1, 41, entry(0, TRIED, EMPTY));
        dueRecord(y, 0, 42, entry(0, TRIED, TRIAL));

        TrialSlots z = withTable(40, entry(1, CONFIRMED, TRIAL));
        due("boot()", z.boot(), 1);
        dueRecord(z, 1, 41, entry(1, CONFIRMED, TRIED));
    }

    private static void elseAsBeforeAfterLastSerial() {
        about("\"all else as before\" means as in the table when the writing of the new one begins"
                + " (the first of two not having become current)");
        TrialSlots x = started();
        x.sign(3, 5, 6, 7);
        pokeRecord(x, 0, MAX, entry(1, CONFIRMED, CONFIRMED));
        due("update(0)", x.update(0), 0);
        dueRecord(x, 0, MAX, entry(1, CONFIRMED, CONFIRMED));
        dueRecord(x, 1, MIN, entry(1, CONFIRMED, TRIAL));
        dueTable(x, 1, CONFIRMED, CONFIRMED);

        TrialSlots y = started();
        y.sign(3, 5, 6, 7);
        pokeRecord(y, 0, MAX - 1, entry(1, CONFIRMED, CONFIRMED));
        due("update(0)", y.update(0), 0);
        dueRecord(y, 1, MAX, entry(0, CONFIRMED, EMPTY));
        dueRecord(y, 0, MIN, entry(0, CONFIRMED, TRIAL));
        dueTable(y, 0, CONFIRMED, EMPTY);
    }

    private static void starting() {
        whatRanEnds();
        trialThatIsNotHomeFirst();
        trialBecomesTried();
        trialBlowsNoFuse();
        homeFirst();
        onlyOneTrial();
        onlyConfirmedOnes();
        fusesUpToTheVersion();
        recovery();
    }

    private static void whatRanEnds() {
        about("What ran ends.");
        TrialSlots x = trying(3);
        due("boot()", x.boot(), 0);
        dueRuns(x, 0, false);
        due("confirm()", x.confirm(), TrialSlots.REFUSED);
        TrialSlots y = trying(3);
        pokeRecord(y, 0, 50, entry(0, EMPTY, EMPTY));
        due("boot() without a state that can start", y.boot(), TrialSlots.RECOVERY);
        dueRuns(y, TrialSlots.RECOVERY, false);
        TrialSlots z = updated(3);
        z.cut(0);
        due("boot()", z.boot(), TrialSlots.CUT);
        dueRuns(z, TrialSlots.NONE, false);
    }

    private static void trialThatIsNotHomeFirst() {
        about("If a slot's state is TRIAL (the slot that is not home is looked at first)");
        for (int home = 0; home < 2; home++) {
            TrialSlots x = withTable(5, entry(home, TRIAL, TRIAL));
            due("boot(), home being " + home, x.boot(), 1 - home);
            due("onTrial()", x.onTrial(), true);
            due("boot() again", x.boot(), home);
            due("onTrial()", x.onTrial(), true);
            due("boot(), both being TRIED", x.boot(), TrialSlots.RECOVERY);
            TrialSlots y = withTable(5, home == 0 ? entry(0, TRIAL, CONFIRMED) : entry(1, CONFIRMED, TRIAL));
            due("boot(), only home being TRIAL", y.boot(), home);
            due("onTrial()", y.onTrial(), true);
        }
    }

    private static void trialBecomesTried() {
        about("a table is written in which this state is TRIED and all else as before");
        for (int home = 0; home < 2; home++) {
            for (int other = 0; other < 4; other++) {
                TrialSlots x = withTable(5, home == 1 ? entry(1, TRIAL, other) : entry(0, other, TRIAL));
                x.boot();
                dueRecord(x, 1, 6, home == 1 ? entry(1, TRIED, other) : entry(0, other, TRIED));
                due("writes()", x.writes(), 3);
            }
        }
        TrialSlots y = withTable(5, entry(0, CONFIRMED, TRIAL));
        y.poke(33, 0);
        due("boot() of a spoilt trial", y.boot(), 0);
        due("state(1)", y.state(1), TRIED);
    }

    private static void trialBlowsNoFuse() {
        about("then the slot is ATTEMPTED; if all is well it runs ON TRIAL");
        TrialSlots x = updated(32);
        x.cut(3);
        due("boot(), which writes the table alone", x.boot(), 1);
        dueRuns(x, 1, true);
        due("counter()", x.counter(), 1);
        dueLogged(x, 1);
    }

    private static void homeFirst() {
        about("first home, then the other slot, each if its state in the table as it is now is CONFIRMED, is attempted");
        for (int home = 0; home < 2; home++) {
            TrialSlots x = withTable(5, entry(home, CONFIRMED, CONFIRMED));
            due("boot(), both being well", x.boot(), home);
            x.poke(17 * home + 16, 0);
            due("boot(), home being spoilt", x.boot(), 1 - home);
            dueLogged(x, 1 - home);
            due("home()", x.home(), home);
            dueRuns(x, 1 - home, false);
            x.poke(17 * (1 - home) + 16, 0);
            due("boot(), both being spoilt", x.boot(), TrialSlots.RECOVERY);
        }
    }

    private static void onlyOneTrial() {
        about("If no state was TRIAL, or that attempt failed");
        for (int home = 0; home < 2; home++) {
            TrialSlots x = withTable(5, entry(home, TRIAL, TRIAL));
            x.poke(17 * (1 - home) + 16, 0);
            due("boot(), the first trial failing", x.boot(), TrialSlots.RECOVERY);
            due("writes(), one table", x.writes(), 3);
            due("state of home", x.state(home), TRIAL);
            due("boot() again", x.boot(), home);
            due("onTrial()", x.onTrial(), true);

            TrialSlots y = withTable(5, home == 0 ? entry(0, TRIAL, CONFIRMED) : entry(1, CONFIRMED, TRIAL));
            y.poke(17 * home + 16, 0);
            due("boot(), home's trial failing", y.boot(), 1 - home);
            due("onTrial()", y.onTrial(), false);
        }
    }

    private static void onlyConfirmedOnes() {
        about("each if its state in the table as it is now is CONFIRMED");
        for (int home = 0; home < 2; home++) {
            for (int state = EMPTY; state <= TRIED; state++) {
                TrialSlots x = withTable(5, entry(home, state, state));
                due("boot(), both being " + state, x.boot(), TrialSlots.RECOVERY);
                TrialSlots y = withTable(5, home == 0 ? entry(0, state, CONFIRMED) : entry(1, CONFIRMED, state));
                due("boot(), home being " + state, y.boot(), 1 - home);
                TrialSlots z = withTable(5, home == 0 ? entry(0, CONFIRMED, state) : entry(1, state, CONFIRMED));
                z.poke(17 * home + 16, 0);
                due("boot(), home being spoilt", z.boot(), TrialSlots.RECOVERY);
            }
        }
        TrialSlots last = withTable(MAX, entry(0, CONFIRMED, TRIAL));
        last.poke(33, 0);
        due("boot(), the trial failing and staying a TRIAL", last.boot(), 0);
        due("onTrial()", last.onTrial(), false);
        due("state(1)", last.state(1), TRIAL);
    }

    private static void fusesUpToTheVersion() {
        about("the first that is well runs, after fuses were blown, one by one, as long as the counter is below"
                + " its version");
        for (int n = 0; n <= 31; n++) {
            TrialSlots x = updated(32);
            pokeRecord(x, 0, 9, entry(1, CONFIRMED, CONFIRMED));
            x.cut(n);
            due("boot() cut after " + n + " fuses", x.boot(), n < 31 ? TrialSlots.CUT : 1);
            due("counter()", x.counter(), 1 + n);
            due("running()", x.running(), n < 31 ? TrialSlots.NONE : 1);
            due("log(-1)", x.log(-1), n < 31 ? 0 : 3);
        }
        TrialSlots y = updated(32);
        pokeRecord(y, 0, 9, entry(0, CONFIRMED, CONFIRMED));
        y.cut(0);
        due("boot(), home's version being the counter", y.boot(), 0);
        due("counter()", y.counter(), 1);
        y.poke(16, 0);
        y.cut(-1);
        due("boot(), home being spoilt", y.boot(), 1);
        due("counter()", y.counter(), 32);
    }

    private static void recovery() {
        about("If none is, the device runs RECOVERY.");
        TrialSlots spoilt = withTable(5, entry(0, CONFIRMED, CONFIRMED));
        spoilt.poke(1, 0);
        spoilt.poke(18, 0);
        due("boot(), both being spoilt", spoilt.boot(), TrialSlots.RECOVERY);
        dueRuns(spoilt, TrialSlots.RECOVERY, false);
        TrialSlots old = confirmed(2);
        pokeSlot(old, 1, wordsOfSlot(old, 0));
        due("boot(), both being below the counter", old.boot(), TrialSlots.RECOVERY);
        TrialSlots noTable = started();
        spoilRecord(noTable, 0);
        due("boot() without a good record", noTable.boot(), TrialSlots.RECOVERY);
        due("writes()", noTable.writes(), 0);
    }

    private static void attempt() {
        logBeginsAnew();
        versionOutside();
        versionBelowCounter();
        notSigned();
        wrongStage();
        enteredStages();
        logOfRecoveryAndOff();
    }

    private static void logBeginsAnew() {
        about("An ATTEMPT: the log becomes empty and the register 0.");
        for (int stage = 0; stage < 3; stage++) {
            TrialSlots x = updated(3);
            x.poke(31 + stage, 99);
            due("boot(), the trial failing at stage " + stage, x.boot(), 0);
            dueLogged(x, 0);
            due("boot() again", x.boot(), 0);
            dueLogged(x, 0);
        }
    }

    private static void versionOutside() {
        about("It fails when the version (word 0) is not 1 .. 32");
        int[] versions = {MIN, -1, 0, 1, 2, 31, 32, 33, 34, 64, MAX};
        for (int version : versions) {
            boolean well = version >= 1 && version <= 32;
            TrialSlots home = made();
            pokeSlot(home, 0, forged(home.key(), version, 3));
            due("boot() of version " + version, home.boot(), well ? 0 : TrialSlots.RECOVERY);
            due("counter()", home.counter(), well ? version : 1);
            TrialSlots trial = updated(3);
            pokeSlot(trial, 1, forged(trial.key(), version, 3));
            due("boot() of version " + version + " on trial", trial.boot(), well ? 1 : 0);
            due("onTrial()", trial.onTrial(), well);
        }
    }

    private static void versionBelowCounter() {
        about("or is below the counter");
        for (int version = 4; version <= 6; version++) {
            TrialSlots x = confirmed(5);
            x.sign(version, 1, 2, 3);
            x.update(1);
            due("boot() of version " + version + ", the counter being 5", x.boot(), version < 5 ? 1 : 0);
            due("onTrial()", x.onTrial(), version >= 5);
            pokeRecord(x, 0, 100, entry(0, CONFIRMED, EMPTY));
            due("boot(), it being CONFIRMED", x.boot(), version < 5 ? TrialSlots.RECOVERY : 0);
            due("counter()", x.counter(), Math.max(5, version));
        }
        TrialSlots full = confirmed(32);
        due("boot() of version 32, the counter being 32", full.boot(), 1);
        full.sign(31, 1, 2, 3);
        full.update(1);
        due("boot() of version 31, the counter being 32", full.boot(), 1);
        due("onTrial()", full.onTrial(), false);
    }

    private static void notSigned() {
        about("or the package in the slot is not signed");
        for (int place = 0; place < 14; place++) {
            TrialSlots x = withTable(5, entry(1, CONFIRMED, CONFIRMED));
            x.poke(17 + place, x.peek(17 + place) ^ 2);
            due("boot(), word " + place + " of slot 1 being wrong", x.boot(), 0);
            TrialSlots y = updated(3);
            y.poke(17 + place, y.peek(17 + place) ^ (place == 0 ? 4 : MIN));
            due("boot(), word " + place + " of the trial being wrong", y.boot(), 0);
        }
        int[] keys = {-1, 8, MIN, MAX};
        for (int key : keys) {
            TrialSlots x = made();
            pokeSlot(x, 0, forged(x.key(), 1, key));
            due("boot() of what comes to the root key from key " + key, x.boot(), TrialSlots.RECOVERY);
        }
        TrialSlots other = updated(3);
        pokeSlot(other, 1, wordsOfSlot(new TrialSlots(78, 1000), 0));
        due("boot() of what another maker signed", other.boot(), 0);
    }

    private static void wrongStage() {
        about("it fails when the stage's digest in the package is not the digest of the stage's image");
        for (int stage = 0; stage < 3; stage++) {
            for (int bit = 0; bit < 32; bit += 31) {
                TrialSlots x = updated(3);
                x.poke(31 + stage, x.peek(31 + stage) ^ 1 << bit);
                due("boot(), bit " + bit + " of image " + stage + " being wrong", x.boot(), 0);
            }
            TrialSlots y = made();
            y.poke(14 + stage, 0);
            due("boot(), image " + stage + " of home being 0", y.boot(), TrialSlots.RECOVERY);
        }
    }

    private static void enteredStages() {
        about("otherwise the stage is entered: the digest is put at the end of the log, and the register becomes"
                + " H(register, digest).");
        int[][] known = {{1000, 923076158}, {MAX, -1012488982}, {MAX - 1, -429737250}, {-1, -874765679},
            {MIN, 627739947}};
        for (int[] imageAndRegister : known) {
            int image = imageAndRegister[0];
            TrialSlots x = new TrialSlots(5, image);
            x.boot();
            due("log(-1)", x.log(-1), 3);
            for (int stage = 0; stage < 3; stage++) {
                due("log(" + stage + ")", x.log(stage), hash(image + stage, stage));
            }
            due("register() from image " + image + " on", x.register(), imageAndRegister[1]);
        }
        TrialSlots zero = started();
        zero.sign(2, 1398175271, 0, 0);
        zero.update(0);
        zero.boot();
        due("log(-1), a digest being 0", zero.log(-1), 3);
        due("log(0)", zero.log(0), 0);
        due("log(1)", zero.log(1), 684751358);
        dueLogged(zero, 1);
    }

    private static void logOfRecoveryAndOff() {
        about("RECOVERY and OFF: the log is empty, the register 0.");
        for (int stage = 0; stage < 3; stage++) {
            TrialSlots x = started();
            x.poke(14 + stage, 99);
            due("boot(), stage " + stage + " being wrong", x.boot(), TrialSlots.RECOVERY);
            dueNothingLogged(x);
            TrialSlots y = withTable(5, entry(0, EMPTY, TRIAL));
            y.poke(31 + stage, 99);
            due("boot(), stage " + stage + " of the trial being wrong", y.boot(), TrialSlots.RECOVERY);
            dueNothingLogged(y);
        }
        dueNothingLogged(made());
        TrialSlots fuse = updated(3);
        pokeRecord(fuse, 0, 9, entry(1, CONFIRMED, CONFIRMED));
        fuse.cut(1);
        due("boot() cut between its fuses", fuse.boot(), TrialSlots.CUT);
        dueNothingLogged(fuse);
        TrialSlots confirming = trying(3);
        confirming.cut(4);
        due("confirm() cut between its fuses", confirming.confirm(), TrialSlots.CUT);
        dueNothingLogged(confirming);
    }
}
