/**
 * The boundary cases that stand in the promises 1 to 20 of the document. Each test bears the sentence
 * that would not hold if it failed.
 */
public final class BoundaryTest extends Kit {
    private static final int[] NO_PACKAGE = {MIN, -17, -2, -1, 7, 8, 17, MAX};
    private static final int[] NO_WORD = {MIN, -17, -2, -1, 17, 18, 34, MAX};
    private static final int[] NO_PLACE = {MIN, -40, -2, -1, 40, 41, 80, MAX};
    private static final int[] NO_VERSION = {MIN, -32, -1, 0, 33, 34, 64, MAX};

    public static void main(String[] args) {
        newObject();
        key();
        sign();
        alter();
        word();
        fault();
        cut();
        update();
        boot();
        confirm();
        whatRuns();
        counter();
        table();
        peek();
        poke();
        registerAndLog();
        writes();
        end();
    }

    /** A device whose maker has used all keys: packages 0 to 6, of the versions 1 to 7. */
    private static TrialSlots full() {
        TrialSlots x = made();
        for (int number = 0; number < 7; number++) {
            x.sign(1 + number, number, -number, 10 * number);
        }
        return x;
    }

    private static void newObject() {
        secretsOfNewObject();
        imagesOfNewObject();
        signedAsSignDoesIt();
        emptyPartsOfNewObject();
        recordOfNewObject();
        fuseOfNewObject();
        newObjectIsOff();
        newObjectHasNoCut();
        newObjectHasNoPackages();
        newObjectHasKeys();
    }

    private static void secretsOfNewObject() {
        about("1: The maker has this secret.");
        int[] secrets = {0, 1, -1, MIN, MAX};
        for (int secret : secrets) {
            TrialSlots x = new TrialSlots(secret, secret);
            due("key() of " + secret, x.key(), nodes(secret)[1]);
            due("boot()", x.boot(), 0);
            x.sign(1, 0, 0, 0);
            due("fault(0)", x.fault(0), 0);
        }
    }

    private static void imagesOfNewObject() {
        about("1: Slot 0 holds the package of version 1 with the images image, image + 1, image + 2, the digests"
                + " of these");
        int[] images = {0, -1, -2, MAX, MAX - 1, MIN};
        for (int image : images) {
            TrialSlots x = new TrialSlots(77, image);
            due("peek(0)", x.peek(0), 1);
            for (int stage = 0; stage < 3; stage++) {
                due("image " + stage + " from " + image + " on", x.peek(14 + stage), image + stage);
                due("digest " + stage + " from " + image + " on", x.peek(1 + stage), hash(image + stage, stage));
            }
        }
    }

    private static void signedAsSignDoesIt() {
        about("1: signed with key 0 (as sign does it)");
        TrialSlots x = new TrialSlots(-8, MAX);
        int[] nodes = nodes(-8);
        int[] digits = digits(message(1, x.peek(1), x.peek(2), x.peek(3)));
        due("peek(4)", x.peek(4), 0);
        for (int chain = 0; chain < 6; chain++) {
            due("peek(" + (5 + chain) + ")", x.peek(5 + chain), chainAt(-8, 0, chain, digits[chain]));
        }
        due("peek(11)", x.peek(11), nodes[9]);
        due("peek(12)", x.peek(12), nodes[5]);
        due("peek(13)", x.peek(13), nodes[3]);
    }

    private static void emptyPartsOfNewObject() {
        about("1: slot 1 is all 0; record 1 is all 0");
        TrialSlots x = new TrialSlots(MAX, MIN);
        dueSlot(x, 1, new int[17]);
        for (int place = 37; place < 40; place++) {
            due("peek(" + place + ")", x.peek(place), 0);
        }
    }

    private static void recordOfNewObject() {
        about("1: record 0 is serial 1, entry 6 (home 0, slot 0 CONFIRMED, slot 1 EMPTY) and its check");
        TrialSlots x = new TrialSlots(MIN, MAX);
        due("peek(34)", x.peek(34), 1);
        due("peek(35)", x.peek(35), 6);
        due("peek(36)", x.peek(36), CHECK_OF_NEW_RECORD);
        dueTable(x, 0, CONFIRMED, EMPTY);
    }

    private static void fuseOfNewObject() {
        about("1: One fuse is blown.");
        TrialSlots x = made();
        due("counter()", x.counter(), 1);
        x.cut(0);
        due("boot(), which has none to blow", x.boot(), 0);
        due("counter()", x.counter(), 1);
    }

    private static void newObjectIsOff() {
        about("1: The device is off");
        TrialSlots x = made();
        dueOff(x);
        x.sign(2, 0, 0, 0);
        due("update(0)", x.update(0), TrialSlots.REFUSED);
        due("confirm()", x.confirm(), TrialSlots.REFUSED);
    }

    private static void newObjectHasNoCut() {
        about("1: no cut is set, no writes were done");
        TrialSlots x = made();
        due("writes()", x.writes(), 0);
        x.sign(32, 0, 0, 0);
        x.boot();
        due("update(0)", x.update(0), 0);
        due("boot()", x.boot(), 1);
        due("confirm()", x.confirm(), 0);
        due("writes()", x.writes(), 60);
    }

    private static void newObjectHasNoPackages() {
        about("1: there are no packages");
        TrialSlots x = started();
        for (int number = -1; number < 2; number++) {
            due("word(" + number + ", 4)", x.word(number, 4), 0);
            due("fault(" + number + ")", x.fault(number), TrialSlots.NONE);
            due("alter(" + number + ", 0, 1)", x.alter(number, 0, 1), false);
            due("update(" + number + ")", x.update(number), TrialSlots.REFUSED);
        }
        due("sign(1, 0, 0, 0)", x.sign(1, 0, 0, 0), 0);
    }

    private static void newObjectHasKeys() {
        about("1: the keys 1 to 7 are unused");
        TrialSlots x = full();
        for (int number = 0; number < 7; number++) {
            due("word(" + number + ", 4)", x.word(number, 4), number + 1);
        }
    }

    private static void key() {
        about("2: The root key.");
        TrialSlots x = trying(4);
        x.sign(1, 0, 0, 0);
        x.alter(0, 11, 0);
        x.poke(13, 0);
        spoilRecord(x, 0);
        x.confirm();
        due("key() after all kinds of calls", x.key(), 207489437);
        x.cut(0);
        x.update(1);
        due("key(), the device being off", x.key(), 207489437);
        due("key() with another image", new TrialSlots(77, MIN).key(), 207489437);
    }

    private static void sign() {
        versionNotSigned();
        refusedSignUsesNoKey();
        leastAndGreatestVersion();
        imagesAtTheEdges();
        numbersAndKeys();
        chainsAndPaths();
        noKeyLeft();
        signIsNoWrite();
    }

    private static void versionNotSigned() {
        about("3: NONE when version is not 1 .. 32");
        for (int version : NO_VERSION) {
            due("sign(" + version + ", 1, 2, 3)", made().sign(version, 1, 2, 3), TrialSlots.NONE);
        }
    }

    private static void refusedSignUsesNoKey() {
        about("3: Answers the package's number (0, 1, ..); NONE when version is not 1 .. 32 (and no key is used)");
        TrialSlots x = made();
        int[] before = everything(x);
        for (int version : NO_VERSION) {
            x.sign(version, 1, 2, 3);
        }
        dueUnchanged(x, before);
        due("fault(0)", x.fault(0), TrialSlots.NONE);
        due("sign(1, 1, 2, 3)", x.sign(1, 1, 2, 3), 0);
        due("word(0, 4)", x.word(0, 4), 1);
    }

    private static void leastAndGreatestVersion() {
        about("3: The maker makes a package with that version");
        TrialSlots x = made();
        int[] versions = {1, 2, 31, 32};
        for (int number = 0; number < versions.length; number++) {
            due("sign(" + versions[number] + ", 1, 2, 3)", x.sign(versions[number], 1, 2, 3), number);
            due("its version", x.word(number, 0), versions[number]);
            due("its fault", x.fault(number), 0);
        }
    }

    private static void imagesAtTheEdges() {
        about("3: and the images a, b, c of the stages 0, 1, 2, their digests");
        TrialSlots x = made();
        int[][] images = {{MIN, MAX, 0}, {-1, MIN, MAX}, {MAX, 0, MIN}, {0, 0, 0}, {-1, -1, -1}};
        for (int number = 0; number < images.length; number++) {
            int[] made = images[number];
            x.sign(1, made[0], made[1], made[2]);
            for (int stage = 0; stage < 3; stage++) {
                due("image " + stage + " of package " + number, x.word(number, 14 + stage), made[stage]);
                due("digest " + stage + " of package " + number, x.word(number, 1 + stage),
                        hash(made[stage], stage));
            }
            due("fault(" + number + ")", x.fault(number), 0);
        }
    }

    private static void numbersAndKeys() {
        about("3: the signature with the least unused key q; the key is used then");
        TrialSlots x = made();
        for (int number = 0; number < 7; number++) {
            due("sign(9, 1, 1, 1)", x.sign(9, 1, 1, 1), number);
            due("word(" + number + ", 4)", x.word(number, 4), number + 1);
            x.alter(number, 4, 0);
        }
        for (int number = 0; number < 7; number++) {
            due("word(" + number + ", 4), altered", x.word(number, 4), 0);
        }
    }

    private static void chainsAndPaths() {
        about("3: word 5 + i is chain i at place (digit i), words 11, 12, 13 are the nodes next to node 8 + q,"
                + " next to the node above that one, and next to the one above that.");
        TrialSlots x = full();
        int[] nodes = nodes(77);
        for (int number = 0; number < 7; number++) {
            int key = number + 1;
            int[] digits = digits(message(key, x.word(number, 1), x.word(number, 2), x.word(number, 3)));
            for (int chain = 0; chain < 6; chain++) {
                due("chain " + chain + " with key " + key, x.word(number, 5 + chain),
                        chainAt(77, key, chain, digits[chain]));
            }
            due("word 11 with key " + key, x.word(number, 11), nodes[8 + key ^ 1]);
            due("word 12 with key " + key, x.word(number, 12), nodes[(8 + key) / 2 ^ 1]);
            due("word 13 with key " + key, x.word(number, 13), nodes[(8 + key) / 4 ^ 1]);
        }
    }

    private static void noKeyLeft() {
        about("3: NONE when all keys are used");
        TrialSlots x = full();
        int[] before = everything(x);
        due("sign(1, 0, 0, 0)", x.sign(1, 0, 0, 0), TrialSlots.NONE);
        due("sign(32, 0, 0, 0)", x.sign(32, 0, 0, 0), TrialSlots.NONE);
        due("sign(0, 0, 0, 0)", x.sign(0, 0, 0, 0), TrialSlots.NONE);
        dueUnchanged(x, before);
        due("word(7, 0)", x.word(7, 0), 0);
        due("fault(7)", x.fault(7), TrialSlots.NONE);
        due("alter(7, 0, 1)", x.alter(7, 0, 1), false);
        x.boot();
        due("update(7)", x.update(7), TrialSlots.REFUSED);
        due("update(6)", x.update(6), 0);
    }

    private static void signIsNoWrite() {
        about("3: sign is the maker's, and no write of the device");
        TrialSlots x = started();
        x.cut(0);
        due("sign(3, 5, 6, 7)", x.sign(3, 5, 6, 7), 0);
        due("running()", x.running(), 0);
        due("writes()", x.writes(), 0);
        x.update(0);
        due("sign(3, 5, 6, 7), the device being off", x.sign(3, 5, 6, 7), 1);
    }

    private static void alter() {
        alterEveryPlace();
        alterNoPackage();
        alterNoPlace();
        alterOnlyThePackage();
    }

    private static void alterEveryPlace() {
        about("4: Word place (0 .. 16) of a package becomes word: true");
        int[] words = {MIN, -1, 0, 1, MAX};
        for (int number = 0; number < 7; number += 6) {
            TrialSlots x = full();
            for (int place = 0; place < 17; place++) {
                int word = words[place % words.length];
                due("alter(" + number + ", " + place + ", " + word + ")", x.alter(number, place, word), true);
                due("alter of the same", x.alter(number, place, word), true);
            }
            for (int place = 0; place < 17; place++) {
                due("word(" + number + ", " + place + ")", x.word(number, place), words[place % words.length]);
            }
        }
    }

    private static void alterNoPackage() {
        about("4: false, changing nothing, when there is no such package");
        TrialSlots x = full();
        int[] before = everything(x);
        for (int number : NO_PACKAGE) {
            due("alter(" + number + ", 0, 99)", x.alter(number, 0, 99), false);
            due("alter(" + number + ", 16, 99)", x.alter(number, 16, 99), false);
        }
        dueUnchanged(x, before);
        TrialSlots y = made();
        due("alter(0, 0, 99) before the first package", y.alter(0, 0, 99), false);
        y.sign(1, 0, 0, 0);
        due("alter(1, 0, 99) before the second", y.alter(1, 0, 99), false);
        y.sign(2, 0, 0, 0);
        due("word(1, 0)", y.word(1, 0), 2);
    }

    private static void alterNoPlace() {
        about("4: false, changing nothing, when there is no such place");
        TrialSlots x = full();
        int[] before = everything(x);
        for (int place : NO_WORD) {
            for (int number = 0; number < 7; number += 3) {
                due("alter(" + number + ", " + place + ", 99)", x.alter(number, place, 99), false);
            }
        }
        dueUnchanged(x, before);
    }

    private static void alterOnlyThePackage() {
        about("4: Word place of a package becomes word (and nothing else does)");
        TrialSlots x = updated(3);
        x.sign(4, 5, 6, 7);
        int[] inSlot = wordsOfSlot(x, 1);
        int[] other = wordsOfPackage(x, 1);
        for (int place = 0; place < 17; place++) {
            x.alter(0, place, 1000 + place);
        }
        dueSlot(x, 1, inSlot);
        for (int place = 0; place < 17; place++) {
            due("word(1, " + place + ")", x.word(1, place), other[place]);
        }
        due("boot()", x.boot(), 1);
    }

    private static void word() {
        about("5: Word place of a package");
        TrialSlots x = full();
        due("word(0, 0)", x.word(0, 0), 1);
        due("word(0, 16)", x.word(0, 16), 0);
        due("word(6, 0)", x.word(6, 0), 7);
        due("word(6, 16)", x.word(6, 16), 60);
        wordOfNoPackage();
        wordOfNoPlace();
    }

    private static void wordOfNoPackage() {
        about("5: 0 when there is no such package");
        TrialSlots x = full();
        for (int number : NO_PACKAGE) {
            due("word(" + number + ", 0)", x.word(number, 0), 0);
            due("word(" + number + ", 16)", x.word(number, 16), 0);
        }
        TrialSlots y = made();
        due("word(0, 0) before the first package", y.word(0, 0), 0);
        y.sign(1, 0, 0, 0);
        due("word(1, 0) before the second", y.word(1, 0), 0);
    }

    private static void wordOfNoPlace() {
        about("5: 0 when there is no such place");
        TrialSlots x = full();
        for (int number = 0; number < 7; number++) {
            x.alter(number, 0, 500);
            x.alter(number, 16, 600);
            for (int place : NO_WORD) {
                due("word(" + number + ", " + place + ")", x.word(number, place), 0);
            }
        }
    }

    private static void fault() {
        faultOfVersion();
        faultOfSignature();
        faultOfStage();
        faultOfNone();
        leastFaultFirst();
        faultChangesNothing();
    }

    private static TrialSlots altered(int[] words) {
        TrialSlots x = made();
        x.sign(3, 5, 6, 7);
        alterAll(x, 0, words);
        return x;
    }

    private static void faultOfVersion() {
        about("6: 1 its version is not 1 .. 32");
        int root = made().key();
        for (int version : NO_VERSION) {
            due("fault(0) of version " + version, altered(forged(root, version, 2)).fault(0), 1);
        }
        int[] versions = {1, 2, 31, 32};
        for (int version : versions) {
            due("fault(0) of version " + version, altered(forged(root, version, 2)).fault(0), 0);
        }
    }

    private static void faultOfSignature() {
        about("6: else 2 it is not signed");
        for (int place = 1; place < 14; place++) {
            for (int bit = 0; bit < 32; bit += 31) {
                TrialSlots x = full();
                x.alter(6, place, x.word(6, place) ^ 1 << bit);
                due("fault(6), bit " + bit + " of word " + place + " being wrong", x.fault(6), 2);
            }
        }
        TrialSlots y = full();
        y.alter(0, 0, 2);
        due("fault(0), another version being said", y.fault(0), 2);
        int[] keys = {-1, 8, MIN, MAX};
        for (int key : keys) {
            due("fault(0) from key " + key, altered(forged(y.key(), 3, key)).fault(0), 2);
        }
        due("fault(0) of what another maker signed",
                altered(wordsOfSlot(new TrialSlots(76, 1000), 0)).fault(0), 2);
        due("fault(0) of the delivered package", altered(wordsOfSlot(made(), 0)).fault(0), 0);
    }

    private static void faultOfStage() {
        about("6: else 3 + k for the least stage k whose digest is not that of its image, else 0");
        for (int wrongStages = 0; wrongStages < 8; wrongStages++) {
            TrialSlots x = full();
            for (int stage = 0; stage < 3; stage++) {
                if ((wrongStages >> stage & 1) == 1) {
                    x.alter(3, 14 + stage, MIN);
                }
            }
            int least = Integer.numberOfTrailingZeros(wrongStages);
            due("fault(3), wrong stages being " + Integer.toBinaryString(wrongStages), x.fault(3),
                    wrongStages == 0 ? 0 : 3 + least);
        }
    }

    private static void faultOfNone() {
        about("6: NONE when there is no such package");
        TrialSlots x = full();
        for (int number : NO_PACKAGE) {
            due("fault(" + number + ")", x.fault(number), TrialSlots.NONE);
        }
        due("fault(0) before the first package", made().fault(0), TrialSlots.NONE);
        TrialSlots y = made();
        y.sign(1, 0, 0, 0);
        due("fault(1) before the second", y.fault(1), TrialSlots.NONE);
        due("fault(0)", y.fault(0), 0);
    }

    private static void leastFaultFirst() {
        about("6: 1 .., else 2 .., else 3 + k ..");
        TrialSlots x = full();
        x.alter(0, 16, 9999);
        due("fault(0), stage 2 being wrong", x.fault(0), 5);
        x.alter(0, 14, 9999);
        due("fault(0), stage 0 being wrong too", x.fault(0), 3);
        x.alter(0, 13, 9999);
        due("fault(0), the signature being wrong too", x.fault(0), 2);
        x.alter(0, 0, 33);
        due("fault(0), the version being wrong too", x.fault(0), 1);
    }

    private static void faultChangesNothing() {
        about("6: What is wrong with a package (the counter is not asked for, and nothing changes)");
        TrialSlots x = confirmed(9);
        x.sign(1, 0, 0, 0);
        int[] before = everything(x);
        due("fault(1), its version being below the counter", x.fault(1), 0);
        dueUnchanged(x, before);
    }

    private static void cut() {
        cutOfWrites();
        cutReplaced();
        cutTakenAway();
        cutRefused();
        cutAtZero();
        cutFarAway();
    }

    /** Slot 0 runs, and package 0 waits for an update, which takes 23 writes. */
    private static TrialSlots waiting() {
        TrialSlots x = started();
        x.sign(1, 5, 6, 7);
        return x;
    }

    private static void cutOfWrites() {
        about("7: Sets the cut at n writes from now on");
        TrialSlots x = waiting();
        x.update(0);
        due("cut(22), 23 writes being done already", x.cut(22), true);
        due("update(0)", x.update(0), TrialSlots.CUT);
        due("writes()", x.writes(), 45);
        x.boot();
        due("cut(24)", x.cut(24), true);
        due("update(0)", x.update(0), 0);
        due("boot(), one write being left", x.boot(), TrialSlots.CUT);
        due("writes()", x.writes(), 45 + 24);
    }

    private static void cutReplaced() {
        about("7: whatever was set before: true");
        TrialSlots x = waiting();
        x.cut(3);
        due("cut(30) after cut(3)", x.cut(30), true);
        due("update(0)", x.update(0), 0);
        due("cut(3) with seven left", x.cut(3), true);
        due("update(0)", x.update(0), TrialSlots.CUT);
        due("writes()", x.writes(), 26);
        TrialSlots off = made();
        due("cut(3), the device being off", off.cut(3), true);
        due("cut(3) of the same", off.cut(3), true);
    }

    private static void cutTakenAway() {
        about("7: n = -1: no cut is set");
        TrialSlots x = waiting();
        due("cut(-1), none being set", x.cut(-1), true);
        due("update(0)", x.update(0), 0);
        x.cut(0);
        due("cut(-1) after cut(0)", x.cut(-1), true);
        due("update(0)", x.update(0), 0);
        due("writes()", x.writes(), 46);
    }

    private static void cutRefused() {
        about("7: False, changing nothing, when n is below -1.");
        int[] refused = {-2, -3, MIN, MIN + 1};
        for (int n : refused) {
            TrialSlots x = waiting();
            due("cut(" + n + "), none being set", x.cut(n), false);
            due("update(0), none being set", x.update(0), 0);
            x.cut(5);
            int[] before = everything(x);
            due("cut(" + n + ") after cut(5)", x.cut(n), false);
            dueUnchanged(x, before);
            due("update(0), the cut being set still", x.update(0), TrialSlots.CUT);
            due("writes()", x.writes(), 28);
        }
    }

    private static void cutAtZero() {
        about("7: Sets the cut at n writes from now on (n being 0)");
        TrialSlots x = waiting();
        due("cut(0)", x.cut(0), true);
        due("running(), until a write is to be done", x.running(), 0);
        due("boot(), which needs none", x.boot(), 0);
        due("update(0)", x.update(0), TrialSlots.CUT);
        due("writes()", x.writes(), 0);
        due("peek(37)", x.peek(37), 0);
    }

    private static void cutFarAway() {
        about("7: Sets the cut at n writes from now on (n being the greatest int)");
        TrialSlots x = waiting();
        x.update(0);
        due("cut(MAX)", x.cut(MAX), true);
        due("update(0)", x.update(0), 0);
        due("boot()", x.boot(), 1);
        due("confirm()", x.confirm(), 0);
        due("writes()", x.writes(), 52);
    }

    private static void update() {
        updateOfNoPackage();
        updateWhenOff();
        updateOnTrial();
        refusedUpdateKeepsTheCut();
        updateOfTheSlotThatDoesNotRun();
        updateInRecovery();
        updateMovesHome();
        updateKeepsTheOtherState();
        updateOfWordsThatAreThere();
        updateWritesInOrder();
        updateOfAnyPackage();
    }

    private static void updateOfNoPackage() {
        about("8: REFUSED, changing nothing, when there is no such package");
        TrialSlots x = full();
        x.boot();
        int[] before = everything(x);
        for (int number : NO_PACKAGE) {
            due("update(" + number + ")", x.update(number), TrialSlots.REFUSED);
        }
        dueUnchanged(x, before);
        due("update(6)", x.update(6), 0);
        TrialSlots y = started();
        due("update(0) before the first package", y.update(0), TrialSlots.REFUSED);
        due("writes()", y.writes(), 0);
        TrialSlots z = recovering(0);
        due("update(1) in recovery", z.update(1), TrialSlots.REFUSED);
        due("update(-1) in recovery", z.update(-1), TrialSlots.REFUSED);
        dueRuns(z, TrialSlots.RECOVERY, false);
    }

    private static void updateWhenOff() {
        about("8: REFUSED, changing nothing, when the device is off");
        TrialSlots x = full();
        int[] before = everything(x);
        due("update(0) of a new device", x.update(0), TrialSlots.REFUSED);
        dueUnchanged(x, before);
        TrialSlots y = trying(3);
        y.cut(1);
        y.confirm();
        before = everything(y);
        due("update(0) after a cut", y.update(0), TrialSlots.REFUSED);
        dueUnchanged(y, before);
    }

    private static void updateOnTrial() {
        about("8: REFUSED, changing nothing, when a slot runs on trial");
        TrialSlots x = trying(3);
        int[] before = everything(x);
        due("update(0)", x.update(0), TrialSlots.REFUSED);
        dueUnchanged(x, before);
        due("confirm(), the trial going on", x.confirm(), 0);
        due("update(0) after it", x.update(0), 0);
        x.boot();
        dueRuns(x, 0, true);
        due("update(0), slot 0 being on trial", x.update(0), TrialSlots.REFUSED);
        x.boot();
        due("update(0), the trial having ended", x.update(0), 0);
    }

    private static void refusedUpdateKeepsTheCut() {
        about("8: REFUSED, changing nothing (the cut is still set)");
        TrialSlots x = waiting();
        x.cut(0);
        due("update(1)", x.update(1), TrialSlots.REFUSED);
        due("running()", x.running(), 0);
        due("update(0)", x.update(0), TrialSlots.CUT);
        x.cut(2);
        due("update(0), the device being off", x.update(0), TrialSlots.REFUSED);
        x.boot();
        due("update(0)", x.update(0), TrialSlots.CUT);
        due("writes()", x.writes(), 2);
    }

    private static void updateOfTheSlotThatDoesNotRun() {
        about("8: Puts a package into the slot that does not run");
        for (int runs = 0; runs < 2; runs++) {
            for (int home = 0; home < 2; home++) {
                TrialSlots x = withTable(5, entry(runs, CONFIRMED, CONFIRMED));
                x.sign(2, 5, 6, 7);
                x.boot();
                pokeRecord(x, 0, 7, entry(home, CONFIRMED, CONFIRMED));
                int[] kept = wordsOfSlot(x, runs);
                due("update(0), slot " + runs + " running and home " + home, x.update(0), 0);
                dueSlot(x, runs, kept);
                dueSlot(x, 1 - runs, wordsOfPackage(x, 0));
                dueRuns(x, runs, false);
                due("log(-1)", x.log(-1), 3);
            }
        }
    }

    private static void updateInRecovery() {
        about("8: (when RECOVERY runs: into the slot that is not home)");
        for (int home = 0; home < 2; home++) {
            TrialSlots x = recovering(home);
            int[] kept = wordsOfSlot(x, home);
            due("update(0), home being " + home, x.update(0), 0);
            dueSlot(x, home, kept);
            dueSlot(x, 1 - home, wordsOfPackage(x, 0));
            due("home()", x.home(), home);
            due("state of the other slot", x.state(1 - home), TRIAL);
            dueRuns(x, TrialSlots.RECOVERY, false);
        }
        TrialSlots y = recovering(1);
        spoilRecord(y, 0);
        due("update(0) without a good record", y.update(0), 0);
        due("peek(17)", y.peek(17), 3);
    }

    private static void updateMovesHome() {
        about("8: a table is written in which the state of that slot is EMPTY and home is the other slot, all else"
                + " as before");
        for (int runs = 0; runs < 2; runs++) {
            TrialSlots x = withTable(5, entry(1 - runs, CONFIRMED, CONFIRMED));
            x.sign(2, 5, 6, 7);
            x.poke(17 * (1 - runs) + 16, 0);
            due("boot(), home being spoilt", x.boot(), runs);
            x.cut(3);
            due("update(0)", x.update(0), TrialSlots.CUT);
            dueRecord(x, 1, 6, runs == 0 ? entry(0, CONFIRMED, EMPTY) : entry(1, EMPTY, CONFIRMED));
            dueRecord(x, 0, 5, entry(1 - runs, CONFIRMED, CONFIRMED));
        }
    }

    private static void updateKeepsTheOtherState() {
        about("8: then a table is written in which the state of that slot is TRIAL and all else as before");
        for (int other = 0; other < 4; other++) {
            TrialSlots x = waiting();
            pokeRecord(x, 0, 5, entry(0, other, CONFIRMED));
            due("update(0), slot 0 being " + other, x.update(0), 0);
            dueRecord(x, 1, 6, entry(0, other, EMPTY));
            dueRecord(x, 0, 7, entry(0, other, TRIAL));
        }
    }

    private static void updateOfWordsThatAreThere() {
        about("8: then the 17 words are written, from word 0 on, each of them even if it is there already");
        TrialSlots x = waiting();
        x.update(0);
        int[] words = wordsOfSlot(x, 1);
        due("update(0) again", x.update(0), 0);
        due("writes()", x.writes(), 46);
        dueSlot(x, 1, words);
        for (int place = 0; place < 17; place++) {
            x.alter(0, place, 0);
        }
        x.update(0);
        x.cut(22);
        due("update(0) of zeros, cut at its last write", x.update(0), TrialSlots.CUT);
        due("writes()", x.writes(), 69 + 22);
    }

    private static void updateWritesInOrder() {
        about("8: a table .., then the 17 words are written, from word 0 on .., then a table ..");
        for (int n = 0; n <= 23; n++) {
            TrialSlots x = waiting();
            pokeRecord(x, 0, 1, entry(0, CONFIRMED, TRIED));
            x.cut(n);
            due("update(0) cut at " + n, x.update(0), n < 23 ? TrialSlots.CUT : 0);
            for (int i = 0; i < 17; i++) {
                due("peek(" + (17 + i) + ") cut at " + n, x.peek(17 + i), i < n - 3 ? x.word(0, i) : 0);
            }
            due("peek(34) cut at " + n, x.peek(34), n <= 20 ? 1 : 3);
            due("state(1) cut at " + n, x.state(1), n < 3 ? TRIED : n < 23 ? EMPTY : TRIAL);
        }
    }

    private static void updateOfAnyPackage() {
        about("8: Otherwise: .. (a package that is wrong is written as it is)");
        TrialSlots x = waiting();
        x.alter(0, 0, MIN);
        x.alter(0, 4, MAX);
        due("fault(0)", x.fault(0), 1);
        due("update(0)", x.update(0), 0);
        dueSlot(x, 1, wordsOfPackage(x, 0));
        due("state(1)", x.state(1), TRIAL);
        due("boot()", x.boot(), 0);
        due("state(1)", x.state(1), TRIED);
    }

    private static void boot() {
        bootWhenItRuns();
        bootAnswers();
    }

    private static void bootWhenItRuns() {
        about("9: Starts the device as said, also when it runs.");
        TrialSlots x = updated(3);
        due("boot(), slot 0 running", x.boot(), 1);
        due("boot(), slot 1 being on trial", x.boot(), 0);
        due("boot(), slot 0 running", x.boot(), 0);
        dueLogged(x, 0);
        TrialSlots y = recovering(0);
        due("boot(), recovery running", y.boot(), TrialSlots.RECOVERY);
        pokeRecord(y, 0, 9, entry(0, CONFIRMED, EMPTY));
        due("boot(), the table being mended", y.boot(), 0);
        dueLogged(y, 0);
        y.poke(0, 2);
        due("boot(), the slot being spoilt", y.boot(), TrialSlots.RECOVERY);
    }

    private static void bootAnswers() {
        about("9: Answers the slot that runs now, or RECOVERY, or CUT.");
        TrialSlots x = updated(3);
        x.cut(2);
        due("boot()", x.boot(), TrialSlots.CUT);
        due("running()", x.running(), TrialSlots.NONE);
        due("boot()", x.boot(), 1);
        due("running()", x.running(), 1);
        spoilRecord(x, 0);
        spoilRecord(x, 1);
        due("boot()", x.boot(), TrialSlots.RECOVERY);
        due("running()", x.running(), TrialSlots.RECOVERY);
    }

    private static void confirm() {
        confirmWithoutTrial();
        refusedConfirmKeepsTheCut();
        confirmedHome();
        confirmBlowsFuses();
        noFuseIsLeft();
        versionBelowCounter();
        trialNoMore();
        confirmCut();
        confirmAfterLastSerial();
    }

    private static void dueRefused(String when, TrialSlots x) {
        int[] before = everything(x);
        due("confirm() " + when, x.confirm(), TrialSlots.REFUSED);
        dueUnchanged(x, before);
    }

    private static void confirmWithoutTrial() {
        about("10: REFUSED, changing nothing, unless a slot runs on trial.");
        dueRefused("of a new device", made());
        dueRefused("of a delivered slot", started());
        dueRefused("before the trial's start", updated(3));
        dueRefused("for the second time", confirmed(3));
        dueRefused("in recovery", recovering(0));
        TrialSlots lost = trying(3);
        lost.cut(0);
        lost.confirm();
        dueRefused("after a cut", lost);
        TrialSlots again = trying(3);
        again.boot();
        dueRefused("after the trial ended", again);
        TrialSlots said = started();
        pokeRecord(said, 0, 9, entry(0, TRIAL, TRIAL));
        dueRefused("when only the table says TRIAL", said);
    }

    private static void refusedConfirmKeepsTheCut() {
        about("10: REFUSED, changing nothing (the cut is still set)");
        TrialSlots x = waiting();
        x.cut(0);
        due("confirm()", x.confirm(), TrialSlots.REFUSED);
        due("running()", x.running(), 0);
        due("update(0)", x.update(0), TrialSlots.CUT);
    }

    private static void confirmedHome() {
        about("10: Otherwise a table is written in which that slot's state is CONFIRMED and home is that slot, all"
                + " else as before");
        for (int slot = 0; slot < 2; slot++) {
            for (int other = 0; other < 4; other++) {
                for (int home = 0; home < 2; home++) {
                    TrialSlots x = withTable(5, slot == 0 ? entry(1, TRIAL, EMPTY) : entry(0, EMPTY, TRIAL));
                    due("boot()", x.boot(), slot);
                    pokeRecord(x, 0, 7, slot == 0 ? entry(home, TRIED, other) : entry(home, other, TRIED));
                    due("confirm()", x.confirm(), 0);
                    dueRecord(x, 1, 8, slot == 0 ? entry(0, CONFIRMED, other) : entry(1, other, CONFIRMED));
                    due("writes()", x.writes(), 6);
                }
            }
        }
    }

    private static void confirmBlowsFuses() {
        about("10: then fuses are blown, one by one, as long as the counter is below the version in that slot");
        for (int version = 1; version <= 32; version++) {
            TrialSlots x = trying(version);
            due("confirm() of version " + version, x.confirm(), 0);
            due("counter()", x.counter(), version);
            due("writes()", x.writes(), 26 + 3 + version - 1);
        }
    }

    private static void noFuseIsLeft() {
        about("10: (and one is left)");
        int[] versions = {32, 33, 34, 64, MAX};
        for (int version : versions) {
            TrialSlots x = trying(3);
            x.poke(17, version);
            x.cut(34);
            due("confirm() of version " + version, x.confirm(), 0);
            due("counter()", x.counter(), 32);
            due("writes()", x.writes(), 26 + 34);
            due("running()", x.running(), 1);
            due("onTrial()", x.onTrial(), false);
        }
        TrialSlots full = confirmed(32);
        full.sign(32, 0, 0, 0);
        full.update(1);
        full.boot();
        full.poke(0, 33);
        full.cut(3);
        due("confirm(), all being blown before", full.confirm(), 0);
        due("counter()", full.counter(), 32);
    }

    private static void versionBelowCounter() {
        about("10: as long as the counter is below the version in that slot (it is not, from the beginning)");
        int[] versions = {5, 4, 1, 0, -1, MIN};
        for (int version : versions) {
            TrialSlots x = confirmed(5);
            x.sign(6, 0, 0, 0);
            x.update(1);
            x.boot();
            x.poke(0, version);
            x.cut(3);
            due("confirm() of version " + version + ", the counter being 5", x.confirm(), 0);
            due("counter()", x.counter(), 5);
            dueTable(x, 0, CONFIRMED, CONFIRMED);
        }
    }

    private static void trialNoMore() {
        about("10: then the slot runs on trial no more. Answers 0");
        TrialSlots x = trying(3);
        int register = x.register();
        due("confirm()", x.confirm(), 0);
        dueRuns(x, 1, false);
        dueLogged(x, 1);
        due("register()", x.register(), register);
        due("confirm() again", x.confirm(), TrialSlots.REFUSED);
        due("boot()", x.boot(), 1);
        due("onTrial()", x.onTrial(), false);
    }

    private static void confirmCut() {
        about("10: Answers 0, or CUT.");
        for (int n = 0; n <= 6; n++) {
            TrialSlots x = trying(4);
            x.cut(n);
            due("confirm() cut at " + n, x.confirm(), n < 6 ? TrialSlots.CUT : 0);
            due("running()", x.running(), n < 6 ? TrialSlots.NONE : 1);
            due("onTrial()", x.onTrial(), false);
            due("counter()", x.counter(), 1 + Math.max(0, n - 3));
            due("state(1)", x.state(1), n < 3 ? TRIED : CONFIRMED);
            due("boot()", x.boot(), n < 3 ? 0 : 1);
            due("counter()", x.counter(), n < 3 ? 1 : 4);
        }
    }

    private static void confirmAfterLastSerial() {
        about("10: Otherwise a table is written .. (after the greatest serial it does not become the current one)");
        TrialSlots x = trying(4);
        pokeRecord(x, 0, MAX, entry(0, CONFIRMED, TRIED));
        due("confirm()", x.confirm(), 0);
        dueRecord(x, 1, MIN, entry(1, CONFIRMED, CONFIRMED));
        dueTable(x, 0, CONFIRMED, TRIED);
        due("counter()", x.counter(), 4);
        dueRuns(x, 1, false);
        due("boot(), slot 0 being below the counter", x.boot(), TrialSlots.RECOVERY);
    }

    private static void whatRuns() {
        about("11: What runs: 0 or 1 a slot, RECOVERY, or NONE when the device is off.");
        due("running() of a new device", made().running(), TrialSlots.NONE);
        due("running() of a started one", started().running(), 0);
        due("running() on trial", trying(3).running(), 1);
        due("running() after confirm", confirmed(3).running(), 1);
        due("running() in recovery", recovering(1).running(), TrialSlots.RECOVERY);
        TrialSlots lost = recovering(0);
        lost.cut(0);
        lost.update(0);
        due("running() after a cut", lost.running(), TrialSlots.NONE);
        about("12: Whether a slot runs on trial.");
        due("onTrial() of a new device", made().onTrial(), false);
        due("onTrial() of a started one", started().onTrial(), false);
        due("onTrial() before the trial", updated(3).onTrial(), false);
        due("onTrial() in it", trying(3).onTrial(), true);
        due("onTrial() after it", confirmed(3).onTrial(), false);
        due("onTrial() in recovery", recovering(0).onTrial(), false);
        TrialSlots cutOff = trying(3);
        cutOff.cut(0);
        cutOff.confirm();
        due("onTrial() after a cut", cutOff.onTrial(), false);
    }

    private static void counter() {
        about("13: The counter.");
        due("counter(), at its least", made().counter(), 1);
        TrialSlots x = confirmed(32);
        due("counter(), at its greatest", x.counter(), 32);
        for (int place = 0; place < 40; place++) {
            x.poke(place, 0);
        }
        x.boot();
        due("counter(), which no poke changes", x.counter(), 32);
    }

    private static void table() {
        about("14: -1 when slot is not 0 or 1");
        int[] none = {MIN, -2, -1, 2, 3, 32, MAX};
        for (int state = 0; state < 4; state++) {
            TrialSlots x = withTable(5, entry(1, state, state));
            for (int slot : none) {
                due("state(" + slot + ")", x.state(slot), -1);
            }
        }
        spoiltTableHasNoThirdSlot();
        about("14: The state of a slot in the table as it is now, 0 .. 3");
        for (int state = 0; state < 4; state++) {
            dueTable(withTable(5, entry(0, state, 3 - state)), 0, state, 3 - state);
            dueTable(withTable(5, entry(1, 3 - state, state) | -32), 1, 3 - state, state);
        }
        about("15: The home slot in the table as it is now.");
        TrialSlots x = started();
        due("home()", x.home(), 0);
        pokeRecord(x, 1, 2, entry(1, CONFIRMED, EMPTY));
        due("home(), a newer table saying 1", x.home(), 1);
        pokeRecord(x, 0, 2, entry(0, CONFIRMED, EMPTY));
        due("home(), one that is as new saying 0", x.home(), 0);
        pokeRecord(x, 0, 2, entry(1, CONFIRMED, EMPTY) | MIN);
        due("home(), other bits being set", x.home(), 1);
        spoilRecord(x, 0);
        spoilRecord(x, 1);
        due("home() without a good record", x.home(), 0);
    }

    private static void spoiltTableHasNoThirdSlot() {
        about("14: -1 when slot is not 0 or 1 (without a good record too)");
        TrialSlots x = made();
        spoilRecord(x, 0);
        due("state(-1)", x.state(-1), -1);
        due("state(2)", x.state(2), -1);
        due("state(0)", x.state(0), EMPTY);
        due("state(1)", x.state(1), EMPTY);
    }

    private static void peek() {
        about("16: Word place (0 .. 39) of the store");
        TrialSlots x = made();
        for (int place = 0; place < 40; place++) {
            x.poke(place, MIN + place);
        }
        for (int place = 0; place < 40; place++) {
            due("peek(" + place + ")", x.peek(place), MIN + place);
        }
        about("16: 0 when there is none.");
        for (int place : NO_PLACE) {
            due("peek(" + place + ")", x.peek(place), 0);
        }
    }

    private static void poke() {
        about("17: Somebody changes word place of the store: true, also when the word is the same");
        TrialSlots x = made();
        for (int place = 0; place < 40; place++) {
            due("poke(" + place + ", the same)", x.poke(place, x.peek(place)), true);
            due("poke(" + place + ", MAX)", x.poke(place, MAX - place), true);
            due("poke(" + place + ", MAX) again", x.poke(place, MAX - place), true);
        }
        for (int place = 0; place < 40; place++) {
            due("peek(" + place + ")", x.peek(place), MAX - place);
        }
        pokeNowhere();
        pokeIsNoWrite();
        pokeWhateverRuns();
    }

    private static void pokeNowhere() {
        about("17: false when there is no such place");
        TrialSlots x = confirmed(3);
        int[] before = everything(x);
        for (int place : NO_PLACE) {
            due("poke(" + place + ", 1)", x.poke(place, 1), false);
        }
        dueUnchanged(x, before);
    }

    private static void pokeIsNoWrite() {
        about("17: which is no write");
        TrialSlots x = waiting();
        x.cut(1);
        for (int place = 17; place < 34; place++) {
            x.poke(place, place);
        }
        due("writes()", x.writes(), 0);
        due("running()", x.running(), 0);
        due("update(0), one write being left", x.update(0), TrialSlots.CUT);
        due("writes()", x.writes(), 1);
        due("poke(39, 5), the device being off", x.poke(39, 5), true);
        due("peek(39)", x.peek(39), 5);
    }

    private static void pokeWhateverRuns() {
        about("17: Somebody changes word place of the store (and what runs goes on)");
        TrialSlots x = trying(3);
        int[] log = {x.log(0), x.log(1), x.log(2), x.register()};
        for (int place = 0; place < 40; place++) {
            x.poke(place, -1);
        }
        dueRuns(x, 1, true);
        due("log(-1)", x.log(-1), 3);
        for (int k = 0; k < 3; k++) {
            due("log(" + k + ")", x.log(k), log[k]);
        }
        due("register()", x.register(), log[3]);
    }

    private static void registerAndLog() {
        about("18: The register.");
        due("register() of a new device", made().register(), 0);
        due("register() of a started one", started().register(), 923076158);
        due("register() in recovery", recovering(0).register(), 0);
        TrialSlots x = trying(3);
        dueLogged(x, 1);
        x.cut(0);
        x.confirm();
        due("register() after a cut", x.register(), 0);
        logOfNoWord();
        countOfLog();
    }

    private static void logOfNoWord() {
        about("19: Word k of the log, from 0; 0 when there is none.");
        TrialSlots x = trying(3);
        for (int k = 0; k < 3; k++) {
            due("log(" + k + ")", x.log(k), x.peek(18 + k));
        }
        int[] none = {MIN, -3, -2, 3, 4, 17, MAX};
        for (int k : none) {
            due("log(" + k + ")", x.log(k), 0);
        }
        TrialSlots empty = made();
        TrialSlots emptied = started();
        emptied.poke(16, 0);
        emptied.boot();
        for (int k = -2; k < 4; k++) {
            due("log(" + k + ") of an empty log", empty.log(k), 0);
            due("log(" + k + ") of an emptied log", emptied.log(k), 0);
        }
    }

    private static void countOfLog() {
        about("19: k = -1: how many words there are.");
        due("log(-1) of a new device", made().log(-1), 0);
        due("log(-1) of a started one", started().log(-1), 3);
        TrialSlots x = started();
        x.boot();
        due("log(-1), started twice", x.log(-1), 3);
        due("log(-1) in recovery", recovering(0).log(-1), 0);
        due("log(-1) after confirm", confirmed(3).log(-1), 3);
    }

    private static void writes() {
        about("20: How many writes were done.");
        TrialSlots x = made();
        x.sign(2, 5, 6, 7);
        x.alter(0, 16, 7);
        x.poke(39, 1);
        x.update(0);
        x.confirm();
        x.boot();
        due("writes(), none being done", x.writes(), 0);
        x.cut(0);
        x.update(0);
        due("writes(), the first being cut", x.writes(), 0);
        x.boot();
        x.cut(1);
        x.update(0);
        due("writes(), the second being cut", x.writes(), 1);
        x.boot();
        x.update(0);
        due("writes()", x.writes(), 24);
        x.boot();
        due("writes()", x.writes(), 27);
        x.update(0);
        due("writes() after a refused call", x.writes(), 27);
        x.cut(3);
        x.confirm();
        due("writes(), the fuse being cut", x.writes(), 30);
        x.boot();
        due("writes(), the fuse being blown", x.writes(), 31);
    }
}
