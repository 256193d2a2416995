/** Cuts the power at every write of two updates in a row, and at every write of the start after it. */
public final class PowerTest {
    // Two updates with start and confirm need 23 + 3 + 3 writes each, and 4 + 5 fuses.
    private static final int ALL_WRITES = 67;
    private static final int[] VERSIONS = {5, 10};

    private static int wrong = 0;

    private static void due(boolean holds, String what) {
        if (!holds) {
            wrong++;
            System.out.println(what);
        }
    }

    private static void updateTwice(TrialSlots x) {
        for (int number = 0; number < VERSIONS.length; number++) {
            if (x.update(number) != 0 || x.boot() == TrialSlots.CUT || x.confirm() != 0) {
                return;
            }
        }
    }

    private static TrialSlots made() {
        TrialSlots x = new TrialSlots(4711, -9);
        for (int i = 0; i < VERSIONS.length; i++) {
            x.sign(VERSIONS[i], i, -i, 7 * i);
        }
        x.boot();
        return x;
    }

    private static boolean isOff(TrialSlots x) {
        return x.running() == TrialSlots.NONE && !x.onTrial() && x.log(-1) == 0 && x.register() == 0;
    }

    private static void checkStarted(TrialSlots x, int counterBefore, String when) {
        int slot = x.running();
        due(slot == 0 || slot == 1, "recovery runs " + when);
        int version = x.peek(slot == 1 ? 17 : 0);
        due(version >= counterBefore, "a version below the counter runs " + when);
        due(x.onTrial() || x.counter() == version, "the counter is not at the running version " + when);
        due(x.counter() >= counterBefore, "the counter went back " + when);
        due(x.log(-1) == 3, "not all stages were entered " + when);
    }

    private static void cutAt(int first, int second) {
        String when = "after cuts at " + first + " and " + second;
        TrialSlots x = made();
        x.cut(first);
        updateTwice(x);
        due(x.writes() == first, "not so many writes were done " + when);
        due(isOff(x), "the device is not off " + when);
        int counter = x.counter();
        x.cut(second);
        if (x.boot() == TrialSlots.CUT) {
            due(x.writes() == first + second, "not so many writes were done at the start " + when);
            due(isOff(x), "the device is not off at the start " + when);
            x.boot();
        }
        x.cut(-1);
        checkStarted(x, counter, when);
        if (!x.onTrial()) {
            updateTwice(x);
            due(x.counter() == 10 && x.peek(x.running() * 17) == 10, "the update could not be repeated " + when);
        }
    }

    private static void withoutCut() {
        TrialSlots x = made();
        updateTwice(x);
        due(x.writes() == ALL_WRITES, "two updates did " + x.writes() + " writes, due is " + ALL_WRITES);
        checkStarted(x, 10, "without a cut");
    }

    public static void main(String[] args) {
        withoutCut();
        for (int first = 0; first < ALL_WRITES; first++) {
            for (int second = 0; second < 10; second++) {
                cutAt(first, second);
            }
        }
        System.out.println(wrong == 0 ? "the power may be cut anywhere" : wrong + " things are not as due");
        if (wrong != 0) {
            System.exit(1);
        }
    }
}
