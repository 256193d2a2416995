/** At least one test for every promise of the document: ordinary inputs, named edges, wrong inputs. */
public final class PromiseTest extends Kit {
    // Worked out apart from the program, by a script that follows the document's terms.
    private static final int[] DELIVERED_77 = {
        1, -141325341, -1054584938, -261001667, 0, -1591400217, 92122011, 53681035, -1771222326,
        -828551477, 1009673758, -2137016656, 1110112565, 1426246163, 1000, 1001, 1002};
    private static final int[] FIRST_77 = {
        3, -2144779821, 1622225189, 18288522, 1, -448936027, -1547598012, -594047342, 1583879944,
        159937921, -1489991829, -801687950, 1110112565, 1426246163, 5, 6, 7};
    private static final int[] SECOND_77 = {
        32, -429798488, 980323788, -725478505, 2, 1563625167, 874952758, -509329880, -658265217,
        509710649, 191299935, -1920528043, -1521812651, 1426246163, -1, MAX, MIN};

    private static void newObject() {
        about("promise 1");
        TrialSlots x = new TrialSlots(77, 1000);
        for (int i = 0; i < 17; i++) {
            due("peek(" + i + ")", x.peek(i), DELIVERED_77[i]);
            due("peek(" + (17 + i) + ")", x.peek(17 + i), 0);
        }
        dueRecord(x, 0, 1, 6);
        for (int i = 37; i < 40; i++) {
            due("peek(" + i + ")", x.peek(i), 0);
        }
        due("counter()", x.counter(), 1);
        due("writes()", x.writes(), 0);
        due("home()", x.home(), 0);
        due("state(0)", x.state(0), 3);
        due("state(1)", x.state(1), 0);
        dueOff(x);
        due("fault(0)", x.fault(0), TrialSlots.NONE);
        due("sign(1, 0, 0, 0)", x.sign(1, 0, 0, 0), 0);
        due("word(0, 4)", x.word(0, 4), 1);
        due("boot()", x.boot(), 0);
        due("update(0), no cut being set", x.update(0), 0);

        TrialSlots wrapped = new TrialSlots(MIN, MAX);
        due("image 0", wrapped.peek(14), MAX);
        due("image 1", wrapped.peek(15), MIN);
        due("image 2", wrapped.peek(16), MIN + 1);
        due("digest 1", wrapped.peek(2), hash(MIN, 1));
        due("boot()", wrapped.boot(), 0);
    }

    private static void key() {
        about("promise 2");
        due("key() of 77", new TrialSlots(77, 1000).key(), 207489437);
        due("key() of 77 with another image", new TrialSlots(77, -4).key(), 207489437);
        due("key() of 0", new TrialSlots(0, 0).key(), 302900908);
        due("key() of -1", new TrialSlots(-1, 0).key(), 1850602293);
        due("key() of the least int", new TrialSlots(MIN, 0).key(), -1288171842);
        TrialSlots x = trying(4);
        x.poke(11, 0);
        due("key() later", x.key(), 207489437);
    }

    private static void sign() {
        about("promise 3");
        TrialSlots x = new TrialSlots(77, 1000);
        int[] refused = {0, 33, -1, MIN, MAX};
        for (int version : refused) {
            due("sign(" + version + ", ..)", x.sign(version, 1, 2, 3), TrialSlots.NONE);
        }
        due("sign(3, 5, 6, 7)", x.sign(3, 5, 6, 7), 0);
        due("sign(32, ..)", x.sign(32, -1, MAX, MIN), 1);
        for (int i = 0; i < 17; i++) {
            due("word(0, " + i + ")", x.word(0, i), FIRST_77[i]);
            due("word(1, " + i + ")", x.word(1, i), SECOND_77[i]);
        }
        for (int number = 2; number < 7; number++) {
            due("sign(1, ..)", x.sign(1, number, 0, 0), number);
            due("key of it", x.word(number, 4), number + 1);
            due("fault of it", x.fault(number), 0);
        }
        due("sign without a key", x.sign(1, 0, 0, 0), TrialSlots.NONE);
        due("word(7, 0)", x.word(7, 0), 0);
        due("writes()", x.writes(), 0);
    }

    private static void alter() {
        about("promise 4");
        TrialSlots x = new TrialSlots(77, 1000);
        due("alter without a package", x.alter(0, 0, 9), false);
        x.sign(3, 5, 6, 7);
        x.sign(4, 5, 6, 7);
        int[][] none = {{2, 0}, {-1, 0}, {MIN, 0}, {MAX, 16}, {0, 17}, {0, -1}, {1, MIN}, {0, MAX}};
        for (int[] at : none) {
            due("alter(" + at[0] + ", " + at[1] + ", 9)", x.alter(at[0], at[1], 9), false);
        }
        for (int i = 0; i < 17; i++) {
            due("word(0, " + i + ") after wrong alters", x.word(0, i), FIRST_77[i]);
        }
        int before = x.word(1, 0);
        for (int i = 0; i < 17; i++) {
            due("alter(0, " + i + ", ..)", x.alter(0, i, 100 + i), true);
            due("word(0, " + i + ")", x.word(0, i), 100 + i);
        }
        due("alter(0, 3, the same)", x.alter(0, 3, 103), true);
        due("word(1, 0)", x.word(1, 0), before);

        TrialSlots y = started();
        y.sign(3, 5, 6, 7);
        y.update(0);
        y.alter(0, 16, 99);
        due("the slot keeps its word", y.peek(33), 7);
        due("boot()", y.boot(), 1);
    }

    private static void word() {
        about("promise 5");
        TrialSlots x = new TrialSlots(77, 1000);
        due("word(0, 0) without a package", x.word(0, 0), 0);
        x.sign(3, 5, 6, 7);
        due("word(0, 0)", x.word(0, 0), 3);
        due("word(0, 16)", x.word(0, 16), 7);
        due("word(0, 17)", x.word(0, 17), 0);
        due("word(0, -1)", x.word(0, -1), 0);
        due("word(1, 0)", x.word(1, 0), 0);
        due("word(-1, 16)", x.word(-1, 16), 0);
        due("word(MIN, MAX)", x.word(MIN, MAX), 0);
        x.sign(3, 5, 6, 7);
        due("word(0, 17) with a package behind it", x.word(0, 17), 0);
        due("word(1, -1) with a package before it", x.word(1, -1), 0);
    }

    private static void fault() {
        about("promise 6");
        TrialSlots x = new TrialSlots(77, 1000);
        due("fault(0) without a package", x.fault(0), TrialSlots.NONE);
        x.sign(3, 5, 6, 7);
        due("fault(0)", x.fault(0), 0);
        due("fault(1)", x.fault(1), TrialSlots.NONE);
        due("fault(-1)", x.fault(-1), TrialSlots.NONE);
        due("fault(MAX)", x.fault(MAX), TrialSlots.NONE);
        for (int place = 1; place < 14; place++) {
            x.alter(0, place, FIRST_77[place] ^ 64);
            due("fault(0), word " + place + " being wrong", x.fault(0), 2);
            x.alter(0, place, FIRST_77[place]);
        }
        int[] keys = {-1, 0, 2, 7, 8, 9, MIN, MAX};
        for (int key : keys) {
            x.alter(0, 4, key);
            due("fault(0) with key " + key, x.fault(0), 2);
        }
        x.alter(0, 4, 1);
        int[] versions = {0, 33, -1, MIN, MAX};
        for (int version : versions) {
            x.alter(0, 0, version);
            due("fault(0) with version " + version, x.fault(0), 1);
        }
        x.alter(0, 0, 32);
        due("fault(0) with version 32", x.fault(0), 2);
        x.alter(0, 0, 1);
        due("fault(0) with version 1", x.fault(0), 2);
        x.alter(0, 0, 3);
        for (int stage = 2; stage >= 0; stage--) {
            x.alter(0, 14 + stage, 1000);
            due("fault(0), images from " + stage + " on being wrong", x.fault(0), 3 + stage);
        }
        x.alter(0, 12, 0);
        due("fault(0), the signature being wrong too", x.fault(0), 2);
        x.alter(0, 0, 0);
        due("fault(0), the version being wrong too", x.fault(0), 1);
        faultOfForged();
    }

    private static void faultOfForged() {
        for (int key = -16; key <= 16; key++) {
            dueFaultOfForged(3, key, key >= 0 && key <= 7 ? 0 : 2);
        }
        dueFaultOfForged(0, 5, 1);
        dueFaultOfForged(1, 5, 0);
        dueFaultOfForged(32, 5, 0);
        dueFaultOfForged(33, 5, 1);
    }

    private static void dueFaultOfForged(int version, int key, int want) {
        TrialSlots x = new TrialSlots(77, 1000);
        x.sign(3, 5, 6, 7);
        int[] words = forged(x.key(), version, key);
        for (int i = 0; i < 17; i++) {
            x.alter(0, i, words[i]);
        }
        due("fault(0), version " + version + " going up from key " + key, x.fault(0), want);
    }

    private static void cut() {
        about("promise 7");
        TrialSlots x = started();
        x.sign(3, 5, 6, 7);
        due("cut(-2)", x.cut(-2), false);
        due("cut(MIN)", x.cut(MIN), false);
        due("cut(MAX)", x.cut(MAX), true);
        due("cut(5)", x.cut(5), true);
        due("cut(-2)", x.cut(-2), false);
        due("update(0)", x.update(0), TrialSlots.CUT);
        due("writes()", x.writes(), 5);
        dueOff(x);
        due("boot(), no cut being set any more", x.boot(), 0);
        due("update(0)", x.update(0), 0);
        due("writes()", x.writes(), 28);

        TrialSlots y = started();
        y.sign(3, 5, 6, 7);
        y.cut(0);
        due("cut(-1)", y.cut(-1), true);
        due("update(0)", y.update(0), 0);
        due("cut(3)", y.cut(3), true);
        y.poke(39, y.peek(39));
        due("boot(), which takes the three writes", y.boot(), 1);
        due("confirm(), which has none left", y.confirm(), TrialSlots.CUT);
        due("writes()", y.writes(), 26);
        due("a refused call needs no write", y.confirm(), TrialSlots.REFUSED);
    }

    private static void update() {
        about("promise 8");
        TrialSlots x = new TrialSlots(77, 1000);
        x.sign(3, 5, 6, 7);
        due("update(0), the device being off", x.update(0), TrialSlots.REFUSED);
        x.boot();
        due("update(1)", x.update(1), TrialSlots.REFUSED);
        due("update(-1)", x.update(-1), TrialSlots.REFUSED);
        due("update(MAX)", x.update(MAX), TrialSlots.REFUSED);
        due("writes()", x.writes(), 0);
        dueRecord(x, 0, 1, 6);
        due("update(0)", x.update(0), 0);
        for (int i = 0; i < 17; i++) {
            due("peek(" + (17 + i) + ")", x.peek(17 + i), FIRST_77[i]);
        }
        dueRecord(x, 1, 2, 6);
        dueRecord(x, 0, 3, 22);
        due("writes()", x.writes(), 23);
        due("running()", x.running(), 0);
        due("log(-1)", x.log(-1), 3);
        due("update(0) of words that are there", x.update(0), 0);
        due("writes()", x.writes(), 46);
        due("boot()", x.boot(), 1);
        due("update(0) on trial", x.update(0), TrialSlots.REFUSED);
        due("writes()", x.writes(), 49);
        x.confirm();
        due("update(0) into slot 0", x.update(0), 0);
        due("peek(0)", x.peek(0), 3);
        due("state(0)", x.state(0), 2);
        due("state(1)", x.state(1), 3);
        due("home()", x.home(), 1);
        updateInRecovery();
        updateWithoutRecord();
        updateMovesHome();
        updateWithLastSerial();
        updateCutAnywhere();
    }

    private static void updateInRecovery() {
        TrialSlots x = started();
        x.sign(3, 5, 6, 7);
        pokeRecord(x, 0, 8, 1);
        due("boot()", x.boot(), TrialSlots.RECOVERY);
        due("update(0)", x.update(0), 0);
        due("peek(0), slot 1 being home", x.peek(0), 3);
        due("peek(17)", x.peek(17), 0);
        due("state(0)", x.state(0), 2);
        due("running()", x.running(), TrialSlots.RECOVERY);
        x.boot();
        x.boot();
        pokeRecord(x, 0, 80, 0);
        due("update(0), home being poked while recovery runs", x.update(0), 0);
        due("peek(17)", x.peek(17), 3);
    }

    private static void updateWithoutRecord() {
        TrialSlots x = started();
        x.sign(3, 5, 6, 7);
        pokeRecord(x, 0, 70, 31);
        x.poke(36, 0);
        due("update(0), no record being good", x.update(0), 0);
        due("peek(17)", x.peek(17), 3);
        dueRecord(x, 0, 1, 0);
        dueRecord(x, 1, 2, 16);
        TrialSlots y = started();
        y.sign(3, 5, 6, 7);
        y.poke(36, 0);
        y.cut(3);
        y.update(0);
        dueRecord(y, 0, 1, 0);
        due("peek(37)", y.peek(37), 0);
    }

    private static void updateMovesHome() {
        TrialSlots x = started();
        x.sign(3, 5, 6, 7);
        pokeRecord(x, 0, 4, -32 + 1 + 6 + 24);
        due("update(0)", x.update(0), 0);
        dueRecord(x, 1, 5, 6);
        dueRecord(x, 0, 6, 22);
    }

    private static void updateWithLastSerial() {
        TrialSlots x = started();
        x.sign(3, 5, 6, 7);
        pokeRecord(x, 0, MAX, 6 + 24 + 1);
        due("update(0)", x.update(0), 0);
        dueRecord(x, 0, MAX, 31);
        dueRecord(x, 1, MIN, 23);
        due("state(1), the new record not being current", x.state(1), 3);
    }

    private static void updateCutAnywhere() {
        for (int n = 0; n < 23; n++) {
            TrialSlots x = started();
            x.sign(3, 5, 6, 7);
            x.cut(n);
            due("update(0) cut at " + n, x.update(0), TrialSlots.CUT);
            due("writes()", x.writes(), n);
            dueOff(x);
            int words = Math.max(0, Math.min(17, n - 3));
            for (int i = 0; i < 17; i++) {
                due("peek(" + (17 + i) + ") cut at " + n, x.peek(17 + i), i < words ? FIRST_77[i] : 0);
            }
            due("state(1) cut at " + n, x.state(1), 0);
            due("boot() cut at " + n, x.boot(), 0);
        }
    }

    private static void boot() {
        about("promise 9");
        TrialSlots x = new TrialSlots(77, 1000);
        due("boot()", x.boot(), 0);
        due("running()", x.running(), 0);
        due("onTrial()", x.onTrial(), false);
        due("boot() again", x.boot(), 0);
        due("writes()", x.writes(), 0);
        bootTriesOnce();
        bootOfTwoTrials();
        bootFallsBack();
        bootBlowsFuses();
        bootRefusesWrongPackages();
        bootReadsTheTableNow();
    }

    private static void bootTriesOnce() {
        TrialSlots x = trying(3);
        due("running()", x.running(), 1);
        due("onTrial()", x.onTrial(), true);
        due("counter()", x.counter(), 1);
        dueRecord(x, 1, 4, 14);
        due("writes()", x.writes(), 26);
        due("boot() without confirm", x.boot(), 0);
        due("onTrial()", x.onTrial(), false);
        due("state(1)", x.state(1), 1);
        for (int n = 0; n < 3; n++) {
            TrialSlots y = started();
            y.sign(3, 5, 6, 7);
            y.update(0);
            y.cut(n);
            due("boot() cut at " + n, y.boot(), TrialSlots.CUT);
            dueOff(y);
            due("state(1) cut at " + n, y.state(1), 2);
            due("boot() after it", y.boot(), 1);
            due("onTrial()", y.onTrial(), true);
        }
    }

    private static void bootOfTwoTrials() {
        TrialSlots x = started();
        x.sign(3, 5, 6, 7);
        x.update(0);
        pokeRecord(x, 0, 9, 4 + 16);
        due("boot(), home being 0", x.boot(), 1);
        due("state(0)", x.state(0), 2);
        due("state(1)", x.state(1), 1);
        due("boot() again", x.boot(), 0);
        due("onTrial()", x.onTrial(), true);
        due("state(0)", x.state(0), 1);
        pokeRecord(x, 0, 90, 4 + 16 + 1);
        due("boot(), home being 1", x.boot(), 0);
        due("onTrial()", x.onTrial(), true);
        pokeRecord(x, 0, 900, 4 + 16);
        x.poke(33, 0);
        due("boot(), the first trial failing", x.boot(), TrialSlots.RECOVERY);
        due("state(0), only one is tried", x.state(0), 2);
    }

    private static void bootFallsBack() {
        TrialSlots x = trying(3);
        x.confirm();
        x.sign(3, 1, 1, 1);
        x.update(1);
        x.boot();
        x.confirm();
        due("boot()", x.boot(), 0);
        x.poke(15, 0);
        due("boot(), home being spoilt", x.boot(), 1);
        due("home() stays", x.home(), 0);
        due("log(-1)", x.log(-1), 3);
        due("log(0)", x.log(0), FIRST_77[1]);
        x.poke(31, 0);
        due("boot(), both being spoilt", x.boot(), TrialSlots.RECOVERY);
        due("running()", x.running(), TrialSlots.RECOVERY);
        due("onTrial()", x.onTrial(), false);
        dueNothingLogged(x);

        int[] notConfirmed = {0, 1};
        for (int state : notConfirmed) {
            TrialSlots y = started();
            pokeRecord(y, 0, 5, 2 * state);
            due("boot(), slot 0 being " + state, y.boot(), TrialSlots.RECOVERY);
        }
    }

    private static void bootBlowsFuses() {
        for (int n = 0; n < 4; n++) {
            TrialSlots x = trying(5);
            x.cut(3);
            due("confirm()", x.confirm(), TrialSlots.CUT);
            due("counter()", x.counter(), 1);
            x.cut(n);
            due("boot() cut at fuse " + n, x.boot(), TrialSlots.CUT);
            due("counter()", x.counter(), 1 + n);
            dueOff(x);
            due("boot()", x.boot(), 1);
            due("counter()", x.counter(), 5);
            due("onTrial()", x.onTrial(), false);
        }
    }

    private static void bootRefusesWrongPackages() {
        for (int place = 0; place < 17; place++) {
            TrialSlots x = started();
            x.poke(place, x.peek(place) ^ 2);
            due("boot() with word " + place + " changed", x.boot(), TrialSlots.RECOVERY);
            dueNothingLogged(x);
            due("counter()", x.counter(), 1);
        }
        bootOfForged();
        TrialSlots old = trying(3);
        old.confirm();
        old.sign(2, 1, 1, 1);
        old.update(1);
        due("boot() with an old version", old.boot(), 1);
        due("state(0)", old.state(0), 1);
        pokeRecord(old, 0, 99, 6 + 8);
        due("boot(), the old version being said to be confirmed", old.boot(), TrialSlots.RECOVERY);
        old.sign(3, 1, 1, 1);
        old.update(2);
        due("boot() with the version of the counter", old.boot(), 1);
        due("onTrial()", old.onTrial(), true);
    }

    private static void bootOfForged() {
        int[][] versionsAndKeys = {{1, 0}, {32, 7}, {33, 0}, {MAX, 7}, {5, 8}, {5, -1}};
        for (int[] made : versionsAndKeys) {
            boolean runs = made[0] <= 32 && made[1] >= 0 && made[1] <= 7;
            TrialSlots x = started();
            pokeSlot(x, 0, forged(x.key(), made[0], made[1]));
            due("boot() of version " + made[0] + " going up from key " + made[1],
                    x.boot(), runs ? 0 : TrialSlots.RECOVERY);
            due("counter()", x.counter(), runs ? made[0] : 1);
        }
    }

    private static void bootReadsTheTableNow() {
        TrialSlots x = started();
        pokeRecord(x, 0, MAX, 6 + 16);
        due("boot() of a spoilt trial", x.boot(), 0);
        dueRecord(x, 1, MIN, 14);
        due("state(1), the new record not being current", x.state(1), 2);
    }

    private static void confirm() {
        about("promise 10");
        TrialSlots x = new TrialSlots(77, 1000);
        due("confirm(), the device being off", x.confirm(), TrialSlots.REFUSED);
        x.boot();
        due("confirm(), no trial", x.confirm(), TrialSlots.REFUSED);
        due("writes()", x.writes(), 0);
        x.sign(3, 5, 6, 7);
        x.update(0);
        due("confirm() before boot", x.confirm(), TrialSlots.REFUSED);
        x.boot();
        due("confirm()", x.confirm(), 0);
        dueRecord(x, 0, 5, 31);
        due("counter()", x.counter(), 3);
        due("onTrial()", x.onTrial(), false);
        due("running()", x.running(), 1);
        due("log(-1)", x.log(-1), 3);
        due("writes()", x.writes(), 31);
        due("confirm() again", x.confirm(), TrialSlots.REFUSED);
        due("boot()", x.boot(), 1);
        confirmOfPokedVersion(MAX, 32);
        confirmOfPokedVersion(33, 32);
        confirmOfPokedVersion(32, 32);
        confirmOfPokedVersion(0, 1);
        confirmOfPokedVersion(MIN, 1);
        confirmCutAnywhere();
        TrialSlots y = started();
        pokeRecord(y, 0, 7, 0);
        y.boot();
        due("confirm() in recovery", y.confirm(), TrialSlots.REFUSED);
    }

    private static void confirmOfPokedVersion(int version, int counter) {
        TrialSlots x = trying(3);
        x.poke(17, version);
        due("confirm(), version poked to " + version, x.confirm(), 0);
        due("counter()", x.counter(), counter);
    }

    private static void confirmCutAnywhere() {
        for (int n = 0; n < 7; n++) {
            TrialSlots x = trying(5);
            x.cut(n);
            due("confirm() cut at " + n, x.confirm(), TrialSlots.CUT);
            dueOff(x);
            due("state(1)", x.state(1), n < 3 ? 1 : 3);
            due("home()", x.home(), n < 3 ? 0 : 1);
            due("counter()", x.counter(), 1 + Math.max(0, n - 3));
            due("boot()", x.boot(), n < 3 ? 0 : 1);
        }
        TrialSlots x = trying(5);
        x.cut(7);
        due("confirm() cut behind its last write", x.confirm(), 0);
    }

    private static void running() {
        about("promise 11");
        TrialSlots x = new TrialSlots(77, 1000);
        due("running()", x.running(), TrialSlots.NONE);
        x.boot();
        due("running()", x.running(), 0);
        x = trying(3);
        due("running()", x.running(), 1);
        x.poke(17, 99);
        x.poke(36, 0);
        x.poke(39, 0);
        due("running() after pokes", x.running(), 1);
        x.boot();
        due("running()", x.running(), TrialSlots.RECOVERY);
        x.cut(0);
        x.update(0);
        due("running()", x.running(), TrialSlots.NONE);
    }

    private static void onTrial() {
        about("promise 12");
        TrialSlots x = trying(3);
        due("onTrial()", x.onTrial(), true);
        pokeRecord(x, 0, 50, 30);
        due("onTrial() after pokes", x.onTrial(), true);
        x.confirm();
        due("onTrial() after confirm()", x.onTrial(), false);
        x = trying(3);
        x.boot();
        due("onTrial() after boot()", x.onTrial(), false);
        x = trying(3);
        x.cut(1);
        x.confirm();
        due("onTrial() after a cut", x.onTrial(), false);
    }

    private static void counter() {
        about("promise 13");
        TrialSlots x = trying(32);
        due("counter()", x.counter(), 1);
        x.confirm();
        due("counter()", x.counter(), 32);
        x.sign(32, 0, 0, 0);
        x.update(1);
        due("boot()", x.boot(), 0);
        x.confirm();
        due("counter()", x.counter(), 32);
    }

    private static void state() {
        about("promise 14");
        TrialSlots x = new TrialSlots(77, 1000);
        int[] none = {-1, 2, MIN, MAX};
        for (int slot : none) {
            due("state(" + slot + ")", x.state(slot), -1);
        }
        for (int entry = 0; entry < 32; entry++) {
            pokeRecord(x, 0, entry, entry | -32);
            due("state(0) of " + entry, x.state(0), entry / 2 % 4);
            due("state(1) of " + entry, x.state(1), entry / 8);
            due("home() of " + entry, x.home(), entry % 2);
        }
    }

    private static void home() {
        about("promise 15");
        TrialSlots x = new TrialSlots(77, 1000);
        pokeRecord(x, 0, 5, 0);
        pokeRecord(x, 1, 5, 1);
        due("home(), serials alike", x.home(), 0);
        pokeRecord(x, 1, 6, 1);
        due("home(), record 1 greater", x.home(), 1);
        pokeRecord(x, 0, -7, 0);
        pokeRecord(x, 1, -8, 1);
        due("home(), record 0 greater", x.home(), 0);
        pokeRecord(x, 0, MIN, 0);
        pokeRecord(x, 1, MAX, 1);
        due("home(), record 1 greatest", x.home(), 1);
        x.poke(39, x.peek(39) + 1);
        due("home(), record 1 not good", x.home(), 0);
        pokeRecord(x, 1, MIN, 1);
        x.poke(35, 2);
        due("home(), record 0 not good", x.home(), 1);
        x.poke(37, 3);
        due("home() without a good record", x.home(), 0);
        due("state(0) without a good record", x.state(0), 0);
    }

    private static void peek() {
        about("promise 16");
        TrialSlots x = new TrialSlots(77, 1000);
        for (int place = 0; place < 40; place++) {
            x.poke(place, 500 + place);
        }
        for (int place = 0; place < 40; place++) {
            due("peek(" + place + ")", x.peek(place), 500 + place);
        }
        int[] none = {-1, 40, MIN, MAX};
        for (int place : none) {
            due("peek(" + place + ")", x.peek(place), 0);
        }
    }

    private static void poke() {
        about("promise 17");
        TrialSlots x = started();
        x.cut(0);
        due("poke(0, the same)", x.poke(0, 1), true);
        due("poke(39, 8)", x.poke(39, 8), true);
        due("peek(39)", x.peek(39), 8);
        int[] none = {-1, 40, MIN, MAX};
        for (int place : none) {
            due("poke(" + place + ", 1)", x.poke(place, 1), false);
        }
        due("writes()", x.writes(), 0);
        due("running()", x.running(), 0);
        x.sign(2, 0, 0, 0);
        due("update(0), the cut being still set", x.update(0), TrialSlots.CUT);
        due("poke(33, 4), the device being off", x.poke(33, 4), true);
        due("peek(33)", x.peek(33), 4);
    }

    private static void register() {
        about("promise 18");
        TrialSlots x = new TrialSlots(77, 1000);
        due("register()", x.register(), 0);
        x.boot();
        due("register()", x.register(), 923076158);
        x.boot();
        due("register() is made anew", x.register(), 923076158);
        x.poke(16, 0);
        due("register() after a poke", x.register(), 923076158);
        x.boot();
        due("register() in recovery", x.register(), 0);
        TrialSlots y = trying(3);
        int register = 0;
        for (int stage = 0; stage < 3; stage++) {
            register = hash(register, FIRST_77[1 + stage]);
        }
        due("register() on trial", y.register(), register);
    }

    private static void log() {
        about("promise 19");
        TrialSlots x = new TrialSlots(77, 1000);
        due("log(-1)", x.log(-1), 0);
        due("log(0)", x.log(0), 0);
        x.boot();
        due("log(-1)", x.log(-1), 3);
        for (int stage = 0; stage < 3; stage++) {
            due("log(" + stage + ")", x.log(stage), DELIVERED_77[1 + stage]);
        }
        int[] none = {3, -2, MIN, MAX};
        for (int k : none) {
            due("log(" + k + ")", x.log(k), 0);
        }
        x.poke(16, 0);
        x.boot();
        dueNothingLogged(x);
        TrialSlots y = started();
        y.sign(3, 5, 6, 7);
        y.alter(0, 16, 8);
        y.update(0);
        due("boot(), the trial failing at its last stage", y.boot(), 0);
        due("log(-1)", y.log(-1), 3);
        due("log(0)", y.log(0), DELIVERED_77[1]);
        due("register()", y.register(), 923076158);
    }

    private static void writes() {
        about("promise 20");
        TrialSlots x = started();
        x.sign(3, 5, 6, 7);
        due("writes()", x.writes(), 0);
        x.cut(0);
        x.update(0);
        due("writes(), the first being cut", x.writes(), 0);
        x.boot();
        x.update(0);
        due("writes()", x.writes(), 23);
        x.boot();
        due("writes()", x.writes(), 26);
        x.confirm();
        due("writes(), two of them fuses", x.writes(), 31);
        x.poke(3, 3);
        due("writes()", x.writes(), 31);
    }

    private static void constants() {
        about("the constants");
        due("NONE", TrialSlots.NONE, -1);
        due("CUT", TrialSlots.CUT, -1);
        due("REFUSED", TrialSlots.REFUSED, -2);
        due("RECOVERY", TrialSlots.RECOVERY, 2);
    }

    public static void main(String[] args) {
        constants();
        newObject();
        key();
        sign();
        alter();
        word();
        fault();
        cut();
        update();
        boot();
        confirm();
        running();
        onTrial();
        counter();
        state();
        home();
        peek();
        poke();
        register();
        log();
        writes();
        end();
    }
}
