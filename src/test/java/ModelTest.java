import java.util.ArrayList;
import java.util.HashSet;
import java.util.List;
import java.util.Random;
import java.util.Set;

/**
 * Runs of calls chosen by a fixed seed, on the class and on a second telling of the document that
 * is made in another way: records and packages are looked up sentence by sentence, the whole key
 * tree is worked out from the secret each time it is asked for, and a cut is an exception.
 */
public final class ModelTest {
    private static final int RUNS = 1500;
    private static final int CALLS = 512;
    private static final int LAST_LOOK = 60;

    private static final class PowerCut extends Exception {
        private static final long serialVersionUID = 1L;
    }

    /** The second telling. */
    private static final class Model {
        final int secret;
        final int[] store = new int[40];
        final List<int[]> packages = new ArrayList<>();
        final List<Integer> log = new ArrayList<>();
        int register = 0;
        int fuses = 1;
        int writes = 0;
        long cutAt = Long.MAX_VALUE;
        int usedKeys = 0;
        int running = -1;
        boolean onTrial = false;
        private final int root;

        Model(int secret, int image) {
            this.secret = secret;
            root = node(1);
            int[] first = make(1, new int[] {image, image + 1, image + 2});
            for (int i = 0; i < 17; i++) {
                store[i] = first[i];
            }
            store[34] = 1;
            store[35] = 6;
            store[36] = h(h(1, 6), 5);
        }

        static int h(int a, int b) {
            long x = ((long) (a ^ 1398175271) * 796343837L + b) & 0xFFFFFFFFL;
            x ^= x >> 13;
            x = (x * 1398175271L) & 0xFFFFFFFFL;
            return (int) (x ^ (x >> 16));
        }

        int chain(int q, int i, int place) {
            return place == 0 ? h(h(secret, q), i) : h(chain(q, i, place - 1), 16 * i + place - 1);
        }

        static int end(int x, int i, int place) {
            return place == 15 ? x : end(h(x, 16 * i + place), i, place + 1);
        }

        int node(int n) {
            if (n < 8) {
                return h(h(node(2 * n), node(2 * n + 1)), n);
            }
            int x = n - 8;
            for (int i = 0; i < 6; i++) {
                x = h(x, chain(n - 8, i, 15));
            }
            return x;
        }

        static int[] digits(int[] p) {
            int m = h(h(h(h(17, p[0]), p[1]), p[2]), p[3]);
            int d0 = m & 15;
            int d1 = m >> 4 & 15;
            int d2 = m >> 8 & 15;
            int d3 = m >> 12 & 15;
            int c = 60 - d0 - d1 - d2 - d3;
            return new int[] {d0, d1, d2, d3, c % 16, c / 16};
        }

        int[] make(int version, int[] images) {
            int q = usedKeys++;
            int[] p = new int[17];
            p[0] = version;
            for (int k = 0; k < 3; k++) {
                p[1 + k] = h(images[k], k);
                p[14 + k] = images[k];
            }
            p[4] = q;
            int[] digits = digits(p);
            for (int i = 0; i < 6; i++) {
                p[5 + i] = chain(q, i, digits[i]);
            }
            p[11] = node((8 + q) ^ 1);
            p[12] = node((8 + q) / 2 ^ 1);
            p[13] = node((8 + q) / 4 ^ 1);
            return p;
        }

        boolean signed(int[] p) {
            int q = p[4];
            if (q < 0 || q > 7) {
                return false;
            }
            int[] digits = digits(p);
            int x = q;
            for (int i = 0; i < 6; i++) {
                x = h(x, end(p[5 + i], i, digits[i]));
            }
            for (int n = 8 + q, step = 11; n > 1; n /= 2, step++) {
                int left = (n & 1) == 0 ? x : p[step];
                int right = (n & 1) == 0 ? p[step] : x;
                x = h(h(left, right), n / 2);
            }
            return x == root;
        }

        int fault(int[] p) {
            if (p[0] < 1 || p[0] > 32) {
                return 1;
            }
            if (!signed(p)) {
                return 2;
            }
            for (int k = 0; k < 3; k++) {
                if (p[1 + k] != h(p[14 + k], k)) {
                    return 3 + k;
                }
            }
            return 0;
        }

        boolean good(int record) {
            int at = record == 0 ? 34 : 37;
            return store[at + 2] == h(h(store[at], store[at + 1]), 5);
        }

        int current() {
            if (good(0) && good(1)) {
                return store[34] >= store[37] ? 0 : 1;
            }
            return good(0) ? 0 : good(1) ? 1 : -1;
        }

        int entry() {
            return current() == -1 ? 0 : store[current() == 0 ? 35 : 38];
        }

        int home() {
            return entry() & 1;
        }

        int state(int slot) {
            return slot == 0 ? (entry() & 6) >> 1 : (entry() & 24) >> 3;
        }

        void write(int place, int word) throws PowerCut {
            aWrite();
            store[place] = word;
        }

        void blow() throws PowerCut {
            aWrite();
            fuses++;
        }

        void aWrite() throws PowerCut {
            if (writes == cutAt) {
                cutAt = Long.MAX_VALUE;
                throw new PowerCut();
            }
            writes++;
        }

        void table(int home, int state0, int state1) throws PowerCut {
            int current = current();
            int at = current == 0 ? 37 : 34;
            int serial = current == -1 ? 1 : store[current == 0 ? 34 : 37] + 1;
            int entry = home + 2 * state0 + 8 * state1;
            write(at, serial);
            write(at + 1, entry);
            write(at + 2, h(h(serial, entry), 5));
        }

        void tableWith(int home, int slot, int state) throws PowerCut {
            table(home, slot == 0 ? state : state(0), slot == 1 ? state : state(1));
        }

        void off() {
            running = -1;
            onTrial = false;
            log.clear();
            register = 0;
        }

        int[] inSlot(int slot) {
            int[] p = new int[17];
            for (int i = 0; i < 17; i++) {
                p[i] = store[17 * slot + i];
            }
            return p;
        }

        boolean attempt(int slot) {
            int[] p = inSlot(slot);
            log.clear();
            register = 0;
            int fault = fault(p);
            if (fault == 1 || fault == 2 || p[0] < fuses) {
                return false;
            }
            int entered = fault == 0 ? 3 : fault - 3;
            for (int k = 0; k < entered; k++) {
                log.add(p[1 + k]);
                register = h(register, p[1 + k]);
            }
            return fault == 0;
        }

        int sign(int version, int a, int b, int c) {
            if (version < 1 || version > 32 || usedKeys == 8) {
                return -1;
            }
            packages.add(make(version, new int[] {a, b, c}));
            return packages.size() - 1;
        }

        boolean isPackage(int number) {
            return number >= 0 && number < packages.size();
        }

        boolean alter(int number, int place, int word) {
            boolean there = isPackage(number) && place >= 0 && place <= 16;
            if (there) {
                packages.get(number)[place] = word;
            }
            return there;
        }

        int word(int number, int place) {
            return isPackage(number) && place >= 0 && place <= 16 ? packages.get(number)[place] : 0;
        }

        boolean cut(int n) {
            if (n >= 0) {
                cutAt = (long) writes + n;
            } else if (n == -1) {
                cutAt = Long.MAX_VALUE;
            }
            return n >= -1;
        }

        int update(int number) {
            if (!isPackage(number) || running == -1 || onTrial) {
                return -2;
            }
            try {
                int keeps = running == 2 ? home() : running;
                int slot = keeps == 0 ? 1 : 0;
                tableWith(keeps, slot, 0);
                for (int i = 0; i < 17; i++) {
                    write(17 * slot + i, packages.get(number)[i]);
                }
                tableWith(home(), slot, 2);
                return 0;
            } catch (PowerCut cut) {
                off();
                return -1;
            }
        }

        int boot() {
            off();
            try {
                for (int slot : new int[] {1 - home(), home()}) {
                    if (state(slot) == 2) {
                        tableWith(home(), slot, 1);
                        onTrial = attempt(slot);
                        if (onTrial) {
                            running = slot;
                            return slot;
                        }
                        break;
                    }
                }
                for (int slot : new int[] {home(), 1 - home()}) {
                    if (state(slot) == 3 && attempt(slot)) {
                        while (fuses < store[17 * slot]) {
                            blow();
                        }
                        running = slot;
                        return slot;
                    }
                }
                off();
                running = 2;
                return 2;
            } catch (PowerCut cut) {
                off();
                return -1;
            }
        }

        int confirm() {
            if (!onTrial) {
                return -2;
            }
            try {
                tableWith(running, running, 3);
                while (fuses < 32 && fuses < store[17 * running]) {
                    blow();
                }
                onTrial = false;
                return 0;
            } catch (PowerCut cut) {
                off();
                return -1;
            }
        }

        int log(int k) {
            return k == -1 ? log.size() : k >= 0 && k < log.size() ? log.get(k) : 0;
        }
    }

    private static final int[] EDGES = {
        Integer.MIN_VALUE, Integer.MIN_VALUE + 1, -3, -2, -1, 0, 1, 2, 3, 7, 8, 16, 17, 31, 32, 33, 34,
        39, 40, 41, Integer.MAX_VALUE - 1, Integer.MAX_VALUE};

    private static final Set<String> reached = new HashSet<>();
    private static int wrong = 0;

    private final int run;
    private final Random random;
    private final TrialSlots real;
    private final Model model;
    private final StringBuilder told = new StringBuilder();
    private int calls = 0;

    private ModelTest(int run) {
        this.run = run;
        random = new Random(1000003L * run);
        int secret = random.nextInt();
        int image = random.nextInt(4) == 0 ? edge() : random.nextInt();
        real = new TrialSlots(secret, image);
        model = new Model(secret, image);
        told.append("new TrialSlots(").append(secret).append(", ").append(image).append(")\n");
    }

    private int edge() {
        return EDGES[random.nextInt(EDGES.length)];
    }

    private int below(int bound) {
        return random.nextInt(12) == 0 ? edge() : random.nextInt(bound);
    }

    private void due(String call, long got, long want) {
        calls++;
        told.append(call).append(" = ").append(got).append('\n');
        reached.add(call.substring(0, call.indexOf('(')) + (want >= -2 && want <= 2 ? " " + want : " other"));
        if (got != want) {
            wrong++;
            if (wrong < 4) {
                System.out.println("run " + run + ": due is " + want + " at the end of\n" + told);
            }
        }
    }

    private void due(String call, boolean got, boolean want) {
        due(call, got ? 1 : 0, want ? 1 : 0);
    }

    private void look(int what) {
        int slot = below(2);
        int place = below(40);
        int k = below(4) - 1;
        switch (what) {
            case 0: due("running()", real.running(), model.running); break;
            case 1: due("onTrial()", real.onTrial(), model.onTrial); break;
            case 2: due("counter()", real.counter(), model.fuses); break;
            case 3: due("state(" + slot + ")", real.state(slot),
                    slot == 0 || slot == 1 ? model.state(slot) : -1); break;
            case 4: due("home()", real.home(), model.home()); break;
            case 5: due("peek(" + place + ")", real.peek(place),
                    place >= 0 && place < 40 ? model.store[place] : 0); break;
            case 6: due("register()", real.register(), model.register); break;
            case 7: due("log(" + k + ")", real.log(k), model.log(k)); break;
            case 8: due("writes()", real.writes(), model.writes); break;
            case 9: due("key()", real.key(), model.root); break;
            default: lookAtPackage();
        }
    }

    private void lookAtPackage() {
        int number = below(7);
        int place = below(17);
        due("word(" + number + ", " + place + ")", real.word(number, place), model.word(number, place));
        due("fault(" + number + ")", real.fault(number),
                model.isPackage(number) ? model.fault(model.packages.get(number)) : -1);
    }

    private void poke(int place, int word) {
        boolean there = place >= 0 && place < 40;
        if (there) {
            model.store[place] = word;
        }
        due("poke(" + place + ", " + word + ")", real.poke(place, word), there);
    }

    private void pokeRecord() {
        int record = random.nextInt(2);
        int serial = random.nextInt(3) == 0 ? edge() : real.peek(37 - 3 * record) + random.nextInt(3) - 1;
        int entry = random.nextInt(32) | (random.nextInt(4) == 0 ? random.nextInt() & -32 : 0);
        calls++;
        poke(34 + 3 * record, serial);
        poke(35 + 3 * record, entry);
        poke(36 + 3 * record, Model.h(Model.h(serial, entry), 5));
    }

    private void pokeWord() {
        int place = below(40);
        int now = place >= 0 && place < 40 ? model.store[place] : 0;
        poke(place, random.nextInt(3) == 0 ? now : now ^ 1 << random.nextInt(32));
    }

    private void mendSlot() {
        if (model.packages.isEmpty()) {
            return;
        }
        int slot = random.nextInt(2);
        int[] source = model.packages.get(random.nextInt(model.packages.size()));
        for (int i = 0; i < 17; i++) {
            poke(17 * slot + i, source[i]);
        }
    }

    private void sign() {
        int version = random.nextInt(3) == 0 ? below(34) : Math.min(32, model.fuses + random.nextInt(3));
        int a = random.nextInt();
        int b = edge();
        int c = random.nextInt();
        due("sign(" + version + ", " + a + ", " + b + ", " + c + ")",
                real.sign(version, a, b, c), model.sign(version, a, b, c));
    }

    private void alter() {
        int number = below(7);
        int place = below(17);
        int now = model.word(number, place);
        int word = random.nextInt(3) == 0 ? edge() : now ^ 1 << random.nextInt(32);
        due("alter(" + number + ", " + place + ", " + word + ")",
                real.alter(number, place, word), model.alter(number, place, word));
        if (random.nextInt(4) != 0) {
            lookAtPackage();
            due("alter(" + number + ", " + place + ", " + now + ")",
                    real.alter(number, place, now), model.alter(number, place, now));
        }
    }

    private void cut() {
        int n = random.nextInt(6) == 0 ? edge() : random.nextInt(3) == 0 ? random.nextInt(60) : random.nextInt(8);
        due("cut(" + n + ")", real.cut(n), model.cut(n));
    }

    private void update() {
        int number = random.nextInt(3) == 0 ? below(7) : model.packages.size() - 1;
        due("update(" + number + ")", real.update(number), model.update(number));
    }

    private void act() {
        int what = random.nextInt(100);
        if (what < 28) {
            due("boot()", real.boot(), model.boot());
        } else if (what < 50) {
            update();
        } else if (what < 68) {
            due("confirm()", real.confirm(), model.confirm());
        } else if (what < 80) {
            sign();
        } else if (what < 87) {
            cut();
        } else if (what < 91) {
            alter();
        } else if (what < 95) {
            pokeWord();
        } else if (what < 98) {
            pokeRecord();
        } else {
            mendSlot();
        }
    }

    private void go() {
        int most = random.nextInt(CALLS - LAST_LOOK - 30);
        while (calls < most) {
            act();
            look(random.nextInt(11));
            look(random.nextInt(9));
        }
        for (int place = 0; place < 40; place++) {
            due("peek(" + place + ")", real.peek(place), model.store[place]);
        }
        for (int what = 0; what < 10; what++) {
            look(what);
        }
        if (calls > CALLS) {
            throw new IllegalStateException("a run has " + calls + " calls");
        }
    }

    /** A comparison that never reached these answers would not be worth much. */
    private static void dueReached() {
        String[] all = {
            "boot 0", "boot 1", "boot 2", "boot -1", "update 0", "update -1", "update -2", "confirm 0",
            "confirm -1", "confirm -2", "sign 0", "sign -1", "fault -1", "fault 0", "fault 1", "fault 2",
            "fault other", "cut 0", "cut 1", "alter 0", "alter 1", "poke 0", "poke 1", "state -1",
            "onTrial 1", "running -1", "running 2"};
        for (String answer : all) {
            if (!reached.contains(answer)) {
                wrong++;
                System.out.println("no run reached: " + answer);
            }
        }
    }

    public static void main(String[] args) {
        for (int run = 0; run < RUNS; run++) {
            new ModelTest(run).go();
        }
        dueReached();
        System.out.println(wrong == 0 ? "all answers are as due" : wrong + " answers are not as due");
        if (wrong != 0) {
            System.exit(1);
        }
    }
}
