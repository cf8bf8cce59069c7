import java.util.Random;
import java.util.function.LongSupplier;

/** Long runs of calls on the class and on the model; the seeds are fixed, so each run is the same again. */
public final class ModelTest {
    private static final int RUNS = 150;
    private static final int CALLS = 500;
    private static final int[] LOW = {0, 30, 0, 0, 0, 1, 1, 0, 10};
    private static final int[] HIGH = {200, 80, 30, 30, 30, 50, 20, 60, 30};
    private static final int[] FAR = {Integer.MIN_VALUE, -1000, -1, 0, 1, 9, 10, 11, 61, 241, 255, 256, 1000,
        Integer.MAX_VALUE};

    private final MixerStation real = new MixerStation();
    private final Model model = new Model();
    private final Random random;
    private final int run;
    private final StringBuilder calls = new StringBuilder();
    private boolean same = true;

    private ModelTest(int run) {
        this.run = run;
        this.random = new Random(run);
    }

    public static void main(String[] args) {
        for (int run = 1; run <= RUNS; run++) {
            ModelTest test = new ModelTest(run);
            for (int k = 0; k < CALLS && test.same; k++) {
                test.one();
            }
            Check.isTrue("run " + run + " is the same as the model's: " + (test.same ? "" : test.calls), test.same);
        }
        Check.end("ModelTest");
    }

    private static String answer(LongSupplier call) {
        try {
            return Long.toString(call.getAsLong());
        } catch (RuntimeException e) {
            return e.getClass().getSimpleName();
        }
    }

    private void both(String call, LongSupplier mine, LongSupplier due) {
        String got = answer(mine);
        String want = answer(due);
        calls.append(call).append('=').append(got).append("; ");
        if (!got.equals(want)) {
            same = false;
            calls.append("due is ").append(want).append(" in run ").append(run);
        }
    }

    private int any(int low, int high) {
        return random.nextInt(25) == 0 ? FAR[random.nextInt(FAR.length)] : low + random.nextInt(high - low + 1);
    }

    // Some ranges are one wider than those of the document, so that the edges are met often.
    private void one() {
        int kind = random.nextInt(100);
        if (kind < 30) {
            ask();
        } else if (kind < 72) {
            act();
        } else if (kind < 90) {
            look();
        } else if (kind < 95) {
            slot();
        } else {
            text();
        }
    }

    private void ask() {
        int a = any(0, 13);
        int b = any(0, 7);
        int c = any(0, 9);
        int i = any(0, 6);
        switch (random.nextInt(6)) {
            case 0: both("about(" + a + ")", () -> real.about(a), () -> model.about(a)); break;
            case 1: both("setting(" + b + ")", () -> real.setting(b), () -> model.setting(b)); break;
            case 2: both("place(" + i + ", " + b % 4 + ")", () -> real.place(i, b % 4), () -> model.place(i, b % 4));
                break;
            case 3: both("room(" + i + ", " + b + ")", () -> real.room(i, b), () -> model.room(i, b)); break;
            case 4: both("moved(" + a + ", " + c + ")", () -> real.moved(a, c), () -> model.moved(a, c)); break;
            default: both("way(" + a + ", " + b % 4 + ")", () -> real.way(a, b % 4), () -> model.way(a, b % 4));
        }
    }

    private void act() {
        int i = any(0, 5);
        switch (random.nextInt(14)) {
            case 0: addRoom(); break;
            case 1: case 2: setRoom(i); break;
            case 3: case 4: window(i); break;
            case 5: case 6: case 7: set(); break;
            case 8: case 9: outside(); break;
            case 10: both("undo()", real::undo, model::undo); break;
            default: pass();
        }
    }

    private void addRoom() {
        int tens = any(1, 9);
        int wanted = any(10, 25);
        int radiators = any(1, 9);
        int leak = any(0, 9);
        both("addRoom(" + tens + ", " + wanted + ", " + radiators + ", " + leak + ")",
                () -> real.addRoom(tens, wanted, radiators, leak), () -> model.addRoom(tens, wanted, radiators, leak));
    }

    private void setRoom(int i) {
        int what = any(0, 2);
        int v = any(what == 0 ? 9 : 0, what == 0 ? 26 : 10);
        both("setRoom(" + i + ", " + what + ", " + v + ")", () -> real.setRoom(i, what, v),
                () -> model.setRoom(i, what, v));
    }

    private void window(int i) {
        boolean open = random.nextBoolean();
        both("window(" + i + ", " + open + ")", () -> real.window(i, open), () -> model.window(i, open));
    }

    private void set() {
        int what = any(0, 8);
        int v = what >= 0 && what <= 8 ? any(LOW[what] - 1, HIGH[what] + 1) : 15;
        both("set(" + what + ", " + v + ")", () -> real.set(what, v), () -> model.set(what, v));
    }

    private void outside() {
        int degrees = run % 3 == 0 ? any(14, 41) : any(-21, 41);
        both("outside(" + degrees + ")", () -> real.outside(degrees), () -> model.outside(degrees));
    }

    private void pass() {
        int minutes = random.nextBoolean() ? any(0, 61) : any(1, 5);
        both("pass(" + minutes + ")", () -> real.pass(minutes), () -> model.pass(minutes));
    }

    private void look() {
        int i = any(0, 6);
        int minutes = any(0, 241);
        switch (random.nextInt(12)) {
            case 0: both("ahead(" + i + ", " + minutes + ")", () -> real.ahead(i, minutes),
                    () -> model.ahead(i, minutes)); break;
            case 1: both("minutesTo(" + i + ")", () -> real.minutesTo(i), () -> model.minutesTo(i)); break;
            case 2: case 3: both("whyOff()", real::whyOff, model::whyOff); break;
            case 4: case 5: both("whyShare()", real::whyShare, model::whyShare); break;
            case 6: bestSlope(random.nextInt(10) == 0 ? minutes : any(1, 20)); break;
            case 7: leastPower(random.nextInt(10) == 0 ? minutes : any(0, 20)); break;
            case 8: both("heatFor(" + minutes + ")", () -> real.heatFor(minutes), () -> model.heatFor(minutes)); break;
            case 9: simulate(); break;
            default: script();
        }
    }

    private void bestSlope(int minutes) {
        both("bestSlope(" + minutes + ")", () -> real.bestSlope(minutes), () -> model.bestSlope(minutes));
    }

    private void leastPower(int minutes) {
        both("leastPower(" + minutes + ")", () -> real.leastPower(minutes), () -> model.leastPower(minutes));
    }

    private void simulate() {
        long seed = random.nextLong();
        int m = any(1, 12);
        both("simulate(" + seed + ", " + m + ")", () -> real.simulate(seed, m), () -> model.simulate(seed, m));
    }

    private void script() {
        int n = any(1, 4);
        long number = 0;
        for (int k = 0; k < Math.max(0, Math.min(n, 4)); k++) {
            number = number * 10000 + group();
        }
        long script = random.nextInt(30) == 0 ? random.nextLong() : number;
        both("runScript(" + n + ", " + script + ")", () -> real.runScript(n, script), () -> model.runScript(n, script));
    }

    private int group() {
        int d = random.nextInt(10);
        int i = random.nextInt(6);
        switch (random.nextInt(12)) {
            case 0: return 1000 + random.nextInt(63);
            case 1: return 2000 + 100 * random.nextInt(2) + random.nextInt(42);
            case 2: return 3000 + 100 * d + random.nextInt(90);
            case 3: return 4000 + 100 * i + random.nextInt(3);
            case 4: return 5000 + 100 * i + 9 + random.nextInt(18);
            case 5: return 6000 + 100 * i + random.nextInt(40);
            case 6: return 7000 + random.nextInt(100);
            case 7: return 8000 + 100 * i + random.nextInt(100);
            case 8: return 9000 + random.nextInt(3);
            case 9: return random.nextInt(10000);
            default: return 1001 + random.nextInt(60);
        }
    }

    private void slot() {
        int slot = any(0, 2);
        if (random.nextBoolean()) {
            both("save(" + slot + ")", () -> real.save(slot), () -> model.save(slot));
        } else {
            both("restore(" + slot + ")", () -> real.restore(slot), () -> model.restore(slot));
        }
    }

    private void text() {
        switch (random.nextInt(3)) {
            case 0: both("clearText()", real::clearText, model::clearText); write(); break;
            case 1: both("load()", real::load, model::load); break;
            default: int c = any(32, 122); both("append(" + c + ")", () -> real.append(c), () -> model.append(c));
        }
        both("errorPosition()", real::errorPosition, model::errorPosition);
    }

    // A station of which, now and then, a character is another one.
    private void write() {
        StringBuilder text = new StringBuilder(String.format("M%03d%02d", random.nextInt(201), 30 + random.nextInt(51)));
        int parts = random.nextInt(14);
        for (int k = 0; k < parts; k++) {
            int what = 2 + random.nextInt(7);
            switch (random.nextInt(3)) {
                case 0: text.append(String.format("r%d%d%d%d", 1 + random.nextInt(9), 10 + random.nextInt(16),
                        1 + random.nextInt(9), random.nextInt(10))); break;
                case 1: text.append(random.nextBoolean() ? String.format("o+%02d", random.nextInt(41))
                        : String.format("o-%02d", 1 + random.nextInt(20))); break;
                default: text.append(String.format("s%d%02d", what,
                        LOW[what] + random.nextInt(HIGH[what] - LOW[what] + 1)));
            }
        }
        if (random.nextInt(3) == 0) {
            text.setCharAt(random.nextInt(text.length()), "0123456789rosM+- "
                    .charAt(random.nextInt(17)));
        }
        for (char c : text.toString().toCharArray()) {
            both("append(" + (int) c + ")", () -> real.append(c), () -> model.append(c));
        }
    }
}
