/** Promises 26 and 27: runScript, simulate. */
public final class ScriptTest {
    private static final int NONE = MixerStation.NONE;

    public static void main(String[] args) {
        refusals();
        passing();
        outside();
        settings();
        rooms();
        tests();
        order();
        simulate();
        simulateByHand();
        Check.end("ScriptTest");
    }

    private static void refusals() {
        MixerStation x = Check.station("M06060r32052");
        long most = 1;
        for (int n = 1; n <= 4; n++) {
            int count = n;
            most *= 10000;
            long tooMany = most;
            Check.thrownUnchanged(x, "runScript of too many digits", Check.ARGUMENT, () -> x.runScript(count, tooMany));
            Check.thrownUnchanged(x, "runScript(" + n + ", -1)", Check.ARGUMENT, () -> x.runScript(count, -1));
            Check.due("runScript(" + n + ", 0)", x.runScript(n, 0), 0);
            Check.due("runScript of as many digits as may be", x.runScript(n, most - 1), 0);
        }
        for (int n : new int[] {0, 5, -1, Integer.MAX_VALUE, Integer.MIN_VALUE}) {
            Check.thrownUnchanged(x, "runScript(" + n + ", 1010)", Check.ARGUMENT, () -> x.runScript(n, 1010));
        }
        Check.thrownUnchanged(x, "runScript(4, MIN)", Check.ARGUMENT, () -> x.runScript(4, Long.MIN_VALUE));
        Check.thrownUnchanged(x, "runScript(4, MAX)", Check.ARGUMENT, () -> x.runScript(4, Long.MAX_VALUE));
    }

    private static void one(MixerStation x, int group, boolean succeeds) {
        Check.due("runScript(1, " + group + ")", x.runScript(1, group), succeeds ? NONE : 0);
    }

    private static void passing() {
        MixerStation x = Check.station("M06060r91510");
        one(x, 1000, false);
        one(x, 1001, true);
        one(x, 1060, true);
        one(x, 1061, false);
        one(x, 1101, false);
        one(x, 101, false);
        Check.due("60 minutes of comfort go by", x.runScript(2, 10608060), NONE);
        Check.due("59 minutes of comfort go by", x.runScript(2, 10598060), 1);
    }

    private static void outside() {
        MixerStation x = Check.station("M06060r91019o+20");
        one(x, 2000, true);
        one(x, 2040, true);
        one(x, 2041, false);
        one(x, 2100, true);
        one(x, 2120, true);
        one(x, 2121, false);
        one(x, 2200, false);
        one(x, 2910, false);
        // With -20 degrees outside 9 * 35 / 8 = 39 a minute leave 1350: below 14 degrees behind 3 minutes.
        Check.due("cold outside", x.runScript(3, 212010036214L), 2);
        Check.due("not cold outside", x.runScript(3, 202010036214L), NONE);
    }

    private static void settings() {
        MixerStation x = Check.station("M06060r32052");
        int[] low = {0, 30, 0, 0, 0, 1, 1, 0, 10};
        int[] high = {99, 80, 30, 30, 30, 50, 20, 60, 30};
        for (int w = 0; w <= 8; w++) {
            one(x, 3000 + 100 * w + low[w], true);
            one(x, 3000 + 100 * w + high[w], true);
            if (low[w] > 0) {
                one(x, 3000 + 100 * w + low[w] - 1, false);
            }
            if (high[w] < 99) {
                one(x, 3000 + 100 * w + high[w] + 1, false);
            }
        }
        one(x, 3900, false);
        one(x, 3915, false);
        // Without rest the boiler is on behind 1 minute.
        Check.due("rest 0", x.runScript(3, 330010019001L), NONE);
        Check.due("rest 1", x.runScript(3, 330110019001L), 2);
    }

    private static void rooms() {
        MixerStation x = Check.station("M06060r12519r12510");
        one(x, 4000, true);
        one(x, 4001, true);
        one(x, 4002, false);
        one(x, 4011, false);
        one(x, 4101, true);
        one(x, 4201, false);
        one(x, 4901, false);
        one(x, 5009, false);
        one(x, 5010, true);
        one(x, 5025, true);
        one(x, 5026, false);
        one(x, 5110, true);
        one(x, 5210, false);
        // The open window lets 27 * 10 / 8 = 33 of 150 + 1 out, the closed one 11.
        Check.due("open window", x.runScript(3, 400110016013L), NONE);
        Check.due("open window, room", x.runScript(3, 400110016213L), 2);
        Check.due("closed window, room", x.runScript(3, 400010016213L), NONE);
        Check.due("wanted temperature", x.runScript(3, 511510018101L), NONE);
        Check.due("wanted temperature of the other room", x.runScript(3, 501510018101L), 2);
    }

    private static void tests() {
        MixerStation x = Check.station("M06060r91510");
        one(x, 6020, true);
        one(x, 6021, false);
        one(x, 6120, true);
        one(x, 6121, false);
        one(x, 6215, true);
        one(x, 6216, false);
        one(x, 6300, false);
        one(x, 6800, false);
        one(x, 6900, false);
        one(x, 7000, true);
        one(x, 7001, false);
        one(x, 7100, false);
        one(x, 8000, true);
        one(x, 8001, false);
        one(x, 8100, false);
        one(x, 9000, true);
        one(x, 9001, false);
        one(x, 9002, false);
        one(x, 9010, false);
        one(x, 9100, false);
        one(x, 0, false);
        one(x, 999, false);
        x.pass(4);
        one(x, 9000, false);
        one(x, 9001, true);
        one(x, 7020, true);
        one(x, 7021, false);
        one(x, 8004, true);
        one(x, 8005, false);
    }

    private static void order() {
        MixerStation x = Check.station("M06060r91510");
        Check.due("the first is the highest group", x.runScript(4, 1001100180021000L), 3);
        Check.due("the third fails", x.runScript(4, 1001100180031000L), 2);
        Check.due("zeros before it", x.runScript(2, 9000), 0);
        Check.due("four that succeed", x.runScript(4, 1001100180029000L), NONE);
        Check.due("the state stays", x.about(1), 0);
    }

    private static void simulate() {
        MixerStation x = Check.station("M06060r32052");
        Check.thrownUnchanged(x, "simulate(1, 0)", Check.ARGUMENT, () -> x.simulate(1, 0));
        Check.thrownUnchanged(x, "simulate(1, 61)", Check.ARGUMENT, () -> x.simulate(1, 61));
        Check.thrownUnchanged(x, "simulate(1, -1)", Check.ARGUMENT, () -> x.simulate(1, Integer.MIN_VALUE));
        String before = Check.picture(x);
        Check.isTrue("simulate answers the same again", x.simulate(7, 60) == x.simulate(7, 60));
        Check.isTrue("simulate changes nothing", Check.picture(x).equals(before));
        Check.due("simulate without rooms", new MixerStation().simulate(0, 1) / 1000000, 0);
    }

    private static void simulateByHand() {
        String[] texts = {"M06060r32052", "M15070r32052r91499r12119o-15", "M06060", "M20080r51055r52555r51555r11010r92599r31533"};
        for (String text : texts) {
            for (long seed : new long[] {0, 5, -7, Long.MIN_VALUE, Long.MAX_VALUE, 123456789012345L}) {
                for (int m : new int[] {1, 2, 5, 60}) {
                    MixerStation x = Check.station(text);
                    x.pass(25);
                    long got = x.simulate(seed, m);
                    Check.due("simulate(" + seed + ", " + m + ") of " + text, got, rounds(x, seed, m));
                }
            }
        }
    }

    private static long rounds(MixerStation x, long seed, int m) {
        int rooms = x.about(0);
        long before = x.moved(9, 0);
        long comfort = 0;
        long state = seed;
        for (int k = 0; k < m; k++) {
            state = state * 6364136223846793005L + 1442695040888963407L;
            int r = (int) (state >>> 33);
            x.outside(r % 61 - 20);
            if (rooms > 0) {
                x.window(r / 64 % rooms, r / 512 % 4 == 0);
            }
            comfort += x.pass(10);
        }
        return 1000000 * comfort + x.moved(9, 0) - before;
    }
}
