import java.math.BigInteger;
import java.util.function.IntSupplier;
import java.util.function.Supplier;

/** The promises 26 to 29: a test for each sentence that names a boundary case. */
public final class EdgeScriptTest {
    private static final int NONE = MixerStation.NONE;

    public static void main(String[] args) {
        numberOfCommands();
        numberOfDigits();
        zerosBefore();
        minutes();
        outside();
        settings();
        windows();
        wanted();
        degrees();
        share();
        comfort();
        boiler();
        everyGroup();
        firstThatFails();
        onACopy();
        rounds();
        overflow();
        greatestSum();
        windowsInRounds();
        slots();
        emptySlots();
        restoreForgets();
        Check.end("EdgeScriptTest");
    }

    private static void numberOfCommands() {
        Check.sentence("n: number of commands, 1 to 4");
        MixerStation x = Check.station("M06060r91510");
        for (int n : new int[] {0, 5, -1, -4, Integer.MIN_VALUE, Integer.MAX_VALUE}) {
            for (long script : new long[] {0, 1, 1001, 9000, -1, Long.MAX_VALUE}) {
                Check.thrown("runScript(" + n + ", " + script + ")", Check.ARGUMENT, () -> x.runScript(n, script));
            }
        }
        Check.due("one command", x.runScript(1, 1001), NONE);
        Check.due("four commands", x.runScript(4, 1001100110011001L), NONE);
    }

    private static void numberOfDigits() {
        Check.sentence("Throws IllegalArgumentException if n is out of range, or if script is negative or has more than "
                + "4 * n digits");
        MixerStation x = Check.station("M06060r91510");
        long beyond = 1;
        for (int n = 1; n <= 4; n++) {
            int count = n;
            beyond *= 10000;
            long first = beyond;
            Check.due("the greatest script of " + n, x.runScript(n, first - 1), 0);
            for (long script : new long[] {first, first + 1, 10 * first, Long.MAX_VALUE, -1, -1001, -first,
                Integer.MIN_VALUE, Long.MIN_VALUE}) {
                Check.thrown("runScript(" + n + ", " + script + ")", Check.ARGUMENT, () -> x.runScript(count, script));
            }
        }
    }

    private static void zerosBefore() {
        Check.sentence("the first command is the highest group of the number (with zeros before it, if it has fewer digits).");
        MixerStation x = Check.station("M06060r91510");
        for (int n = 1; n <= 4; n++) {
            Check.due("runScript(" + n + ", 0)", x.runScript(n, 0), 0);
            Check.due("runScript(" + n + ", 1001)", x.runScript(n, 1001), n == 1 ? NONE : 0);
            Check.due("runScript(" + n + ", 999)", x.runScript(n, 999), 0);
        }
        Check.due("the second group fails", x.runScript(2, 10010000L), 1);
        Check.due("the third group fails", x.runScript(3, 100110010000L), 2);
        Check.due("the fourth group fails", x.runScript(4, 1001100110010000L), 3);
        Check.due("the first and the last fail", x.runScript(4, 1100110010000L), 0);
    }

    private static void one(MixerStation x, int group, boolean succeeds) {
        Check.due("runScript(1, " + group + ")", x.runScript(1, group), succeeds ? NONE : 0);
    }

    private static void minutes() {
        Check.sentence("1 0 x y: xy minutes go by (01 to 60).");
        MixerStation x = Check.station("M06060r91510");
        one(x, 1000, false);
        one(x, 1001, true);
        one(x, 1060, true);
        one(x, 1061, false);
        one(x, 1099, false);
        one(x, 1101, false);
        one(x, 1901, false);
        Check.due("1 minute of comfort behind 1001", x.runScript(2, 10018001L), NONE);
        Check.due("2 minutes of comfort behind 1001", x.runScript(2, 10018002L), 1);
        Check.due("60 minutes of comfort behind 1060", x.runScript(2, 10608060L), NONE);
        Check.due("61 minutes of comfort behind 1060", x.runScript(2, 10608061L), 1);
    }

    private static void outside() {
        Check.sentence("2 s x y: the temperature outside becomes xy (s is 0) or -xy (s is 1).");
        MixerStation x = Check.station("M06060r11018s400");
        one(x, 2000, true);
        one(x, 2040, true);
        one(x, 2041, false);
        one(x, 2099, false);
        one(x, 2100, true);
        one(x, 2120, true);
        one(x, 2121, false);
        one(x, 2199, false);
        one(x, 2200, false);
        one(x, 2905, false);
        // A room of 150 units and a leak of 8: 15 - (outside) units go.
        Check.due("0 outside: 13 degrees are left", x.runScript(3, 200010016213L), NONE);
        Check.due("0 outside: not 14", x.runScript(3, 200010016214L), 2);
        Check.due("-0 outside: 13 degrees are left", x.runScript(3, 210010016213L), NONE);
        Check.due("-0 outside: not 14", x.runScript(3, 210010016214L), 2);
        Check.due("-20 outside: 11 degrees are left", x.runScript(3, 212010016211L), NONE);
        Check.due("-20 outside: not 12", x.runScript(3, 212010016212L), 2);
        Check.due("40 outside: 17 degrees", x.runScript(3, 204010016217L), NONE);
        Check.due("40 outside: not 18", x.runScript(3, 204010016218L), 2);
    }

    private static void settings() {
        Check.sentence("3 w x y: the setting w becomes xy.");
        MixerStation x = new MixerStation();
        int[] low = {0, 30, 0, 0, 0, 1, 1, 0, 10};
        int[] high = {200, 80, 30, 30, 30, 50, 20, 60, 30};
        for (int w = 0; w <= 9; w++) {
            MixerStation y = new MixerStation();
            for (int v = 0; v <= 99; v++) {
                one(y, 3000 + 100 * w + v, w <= 8 && v >= low[w] && v <= high[w]);
            }
        }
        Check.due("rest 0: on in the first minute", x.runScript(3, 330010019001L), NONE);
        Check.due("rest 1: off in the first minute", x.runScript(3, 330110019000L), NONE);
        Check.due("power 0: off behind an hour", x.runScript(3, 300010609000L), NONE);
        Check.due("speed 1 from 0", x.runScript(3, 350110017001L), NONE);
        Check.due("speed 1 is not 2", x.runScript(3, 350110017002L), 2);
    }

    private static void windows() {
        Check.sentence("4 i 0 m: the window of room i is opened (m is 1) or closed (m is 0).");
        MixerStation x = Check.station("M06060" + "r11019".repeat(6) + "s400");
        for (int i = 0; i <= 9; i++) {
            one(x, 4000 + 100 * i, i <= 5);
            one(x, 4001 + 100 * i, i <= 5);
            one(x, 4002 + 100 * i, false);
            one(x, 4010 + 100 * i, false);
            one(x, 4011 + 100 * i, false);
        }
        // 27 * 10 / 8 = 33 of 150 go, or 9 * 10 / 8 = 11.
        for (int i = 0; i <= 5; i++) {
            long open = (4001 + 100L * i) * 100000000 + 10010000L;
            Check.due("the room " + i + " with an open window", x.runScript(3, open + 6211 + 100 * i), NONE);
            Check.due("is colder", x.runScript(3, open + 6212 + 100 * i), 2);
            long closed = (4000 + 100L * i) * 100000000 + 10010000L;
            Check.due("the room " + i + " with a closed window", x.runScript(3, closed + 6213 + 100 * i), NONE);
        }
        one(new MixerStation(), 4000, false);
        one(new MixerStation(), 4001, false);
    }

    private static void wanted() {
        Check.sentence("5 i x y: the wanted temperature of room i becomes xy.");
        MixerStation x = Check.station("M06060" + "r92510".repeat(6) + "s400");
        for (int i = 0; i <= 9; i++) {
            one(x, 5009 + 100 * i, false);
            one(x, 5010 + 100 * i, i <= 5);
            one(x, 5025 + 100 * i, i <= 5);
            one(x, 5026 + 100 * i, false);
        }
        for (int i = 0; i <= 5; i++) {
            long first = (5016 + 100L * i) * 100000000 + 10010000L;
            Check.due("comfort in the room " + i + " with 16 wanted", x.runScript(3, first + 8001 + 100 * i), NONE);
            Check.due("no comfort with 17 wanted", x.runScript(3, first + 100000000 + 8001 + 100 * i), 2);
        }
        one(new MixerStation(), 5020, false);
    }

    private static void degrees() {
        Check.sentence("6 p x y: succeeds if the place p has at least xy degrees.");
        MixerStation x = Check.station("M06060" + "r11010".repeat(6));
        for (int p = 0; p <= 9; p++) {
            int degrees = p <= 1 ? 20 : 15;
            one(x, 6000 + 100 * p, p <= 7);
            one(x, 6000 + 100 * p + degrees - 1, p <= 7);
            one(x, 6000 + 100 * p + degrees, p <= 7);
            one(x, 6000 + 100 * p + degrees + 1, false);
            one(x, 6099 + 100 * p, false);
        }
        MixerStation none = new MixerStation();
        one(none, 6120, true);
        one(none, 6200, false);
        one(none, 6800, false);
        one(none, 6900, false);
        MixerStation cold = Check.station("M00060r11019o-20");
        cold.window(0, true);
        cold.pass(60);
        Check.isTrue("the room is below 0", cold.place(2, 1) < 0);
        one(cold, 6200, false);
    }

    private static void share() {
        Check.sentence("7 0 x y: succeeds if the share is at least xy.");
        MixerStation x = Check.station("M00060s430s550s700");
        one(x, 7000, true);
        one(x, 7001, false);
        one(x, 7100, false);
        x.pass(1);
        one(x, 7049, true);
        one(x, 7050, true);
        one(x, 7051, false);
        one(x, 7150, false);
        one(x, 7900, false);
        x.pass(1);
        one(x, 7099, true);
        one(x, 7199, false);
    }

    private static void comfort() {
        Check.sentence("8 i x y: succeeds if room i has had at least xy minutes of comfort so far.");
        MixerStation x = Check.station("M00060" + "r91510".repeat(6));
        for (int i = 0; i <= 9; i++) {
            one(x, 8000 + 100 * i, i <= 5);
            one(x, 8001 + 100 * i, false);
        }
        x.pass(60);
        x.setRoom(0, 0, 25);
        x.pass(38);
        for (int i = 0; i <= 9; i++) {
            one(x, 8060 + 100 * i, i <= 5);
            one(x, 8061 + 100 * i, i >= 1 && i <= 5);
            one(x, 8098 + 100 * i, i >= 1 && i <= 5);
            one(x, 8099 + 100 * i, false);
        }
        one(new MixerStation(), 8000, false);
    }

    private static void boiler() {
        Check.sentence("9 0 0 m: succeeds if the boiler is on (m is 1), or off (m is 0).");
        MixerStation x = new MixerStation();
        for (int on = 0; on <= 1; on++) {
            Check.due("about(3)", x.about(3), on);
            one(x, 9000, on == 0);
            one(x, 9001, on == 1);
            one(x, 9002, false);
            one(x, 9009, false);
            one(x, 9010, false);
            one(x, 9011, false);
            one(x, 9100, false);
            one(x, 9101, false);
            x.pass(4);
        }
    }

    private static boolean works(IntSupplier call) {
        try {
            call.getAsInt();
            return true;
        } catch (IllegalArgumentException | IndexOutOfBoundsException e) {
            return false;
        }
    }

    /** Does what the command says by the other methods. */
    private static boolean succeeds(MixerStation x, int group) {
        int d2 = group / 100 % 10;
        int d3 = group / 10 % 10;
        int d4 = group % 10;
        int xy = 10 * d3 + d4;
        switch (group / 1000) {
            case 1: return d2 == 0 && works(() -> x.pass(xy));
            case 2: return (d2 == 0 || d2 == 1) && works(() -> x.outside(d2 == 0 ? xy : -xy));
            case 3: return works(() -> x.set(d2, xy));
            case 4: return d3 == 0 && (d4 == 0 || d4 == 1) && works(() -> x.window(d2, d4 == 1));
            case 5: return works(() -> x.setRoom(d2, 0, xy));
            case 6: return d2 < 2 + x.about(0) && x.place(d2, 1) >= xy;
            case 7: return d2 == 0 && x.about(5) >= xy;
            case 8: return d2 < x.about(0) && x.room(d2, 4) >= xy;
            case 9: return d2 == 0 && d3 == 0 && (d4 == 0 || d4 == 1) && x.about(3) == d4;
            default: return false;
        }
    }

    private static MixerStation three() {
        MixerStation x = Check.station("M06060r32052r91499r11510o-05");
        x.window(1, true);
        x.pass(33);
        return x;
    }

    private static MixerStation sixInSummer() {
        MixerStation x = Check.station("M06060" + "r91510".repeat(6) + "o+20");
        x.pass(60);
        x.pass(1);
        return x;
    }

    private static void everyGroup() {
        Check.sentence("The commands 1 to 5 fail if the method with this effect would throw an exception; commands with rooms "
                + "or places with heat that do not exist fail, and so does any other group (also one with another digit "
                + "where a 0 is written). xy is a decimal number.");
        for (int group = 0; group <= 9999; group++) {
            one(new MixerStation(), group, succeeds(new MixerStation(), group));
            one(three(), group, succeeds(three(), group));
            one(sixInSummer(), group, succeeds(sixInSummer(), group));
        }
    }

    private static void firstThatFails() {
        Check.sentence("Returns the index, from 0, of the first command that fails; NONE if all succeed.");
        int[] groups = {1001, 1060, 2115, 2040, 3000, 3180, 3300, 3430, 4001, 4100, 4201, 5025, 5110, 5213, 6025, 6121,
            6215, 6314, 7001, 7040, 8005, 8110, 8240, 9000, 9001, 1007};
        int[] met = new int[5];
        for (int k = 0; k < 3000; k++) {
            int[] four = {groups[k % 26], groups[k * 7 % 25], groups[k * 11 / 3 % 26], groups[k * 5 / 2 % 23]};
            int due = NONE;
            long script = 0;
            MixerStation twin = three();
            for (int index = 0; index < 4; index++) {
                script = 10000 * script + four[index];
                if (due == NONE && !succeeds(twin, four[index])) {
                    due = index;
                }
            }
            met[due == NONE ? 4 : due]++;
            Check.due("runScript(4, " + script + ")", three().runScript(4, script), due);
        }
        for (int index = 0; index <= 4; index++) {
            Check.isTrue("the answer " + index + " (4: NONE) was due", met[index] > 0);
        }
    }

    private static void onACopy() {
        Check.sentence("Runs a script on a copy of the state.");
        MixerStation x = three();
        String before = Check.picture(x);
        Check.due("a script that changes everything", x.runScript(4, 3080400150251060L), NONE);
        Check.isTrue("all is as it was", Check.picture(x).equals(before));
        Check.due("a script that fails at its end", x.runScript(4, 3080400150259999L), 3);
        Check.isTrue("all is as it was", Check.picture(x).equals(before));
        Check.due("undo()", x.undo(), 1);
    }

    private static long byHand(Supplier<MixerStation> make, long seed, int m) {
        MixerStation x = make.get();
        int rooms = x.about(0);
        long before = x.moved(9, 0);
        BigInteger all = BigInteger.ONE.shiftLeft(64);
        BigInteger state = BigInteger.valueOf(seed).mod(all);
        long comfort = 0;
        for (int k = 0; k < m; k++) {
            state = state.multiply(new BigInteger("6364136223846793005")).add(new BigInteger("1442695040888963407"))
                    .mod(all);
            int r = state.shiftRight(33).intValueExact();
            x.outside(r % 61 - 20);
            if (rooms > 0) {
                x.window(r / 64 % rooms, r / 512 % 4 == 0);
            }
            comfort += x.pass(10);
        }
        return 1000000L * comfort + x.moved(9, 0) - before;
    }

    private static void rounds() {
        Check.sentence("m: number of rounds, 1 to 60");
        MixerStation x = three();
        for (int m : new int[] {0, 61, -1, Integer.MIN_VALUE, Integer.MAX_VALUE}) {
            Check.thrown("simulate(1, " + m + ")", Check.ARGUMENT, () -> x.simulate(1, m));
        }
        for (int m : new int[] {1, 2, 59, 60}) {
            Check.due("simulate(1, " + m + ")", x.simulate(1, m), byHand(EdgeScriptTest::three, 1, m));
        }
        Check.isTrue("the last round counts", x.simulate(1, 59) != x.simulate(1, 60));
    }

    private static void overflow() {
        Check.sentence("Each round first replaces x by x * 6364136223846793005L + 1442695040888963407L (with long overflow), "
                + "and r = (int) (x >>> 33) is computed. The temperature outside becomes r % 61 - 20;");
        long[] seeds = {0, 1, -1, 2, -2, 7, -7, Integer.MAX_VALUE, Integer.MIN_VALUE, Long.MAX_VALUE, Long.MIN_VALUE,
            Long.MAX_VALUE - 1, Long.MIN_VALUE + 1, 1L << 33, -(1L << 33), 123456789012345678L};
        for (long seed : seeds) {
            for (int m : new int[] {1, 2, 17}) {
                Check.due("simulate(" + seed + ", " + m + ") of three rooms", three().simulate(seed, m),
                        byHand(EdgeScriptTest::three, seed, m));
                Check.due("simulate(" + seed + ", " + m + ") of six rooms", sixInSummer().simulate(seed, m),
                        byHand(EdgeScriptTest::sixInSummer, seed, m));
                Check.due("simulate(" + seed + ", " + m + ") without rooms", new MixerStation().simulate(seed, m),
                        byHand(MixerStation::new, seed, m));
            }
        }
    }

    private static void greatestSum() {
        Check.sentence("Returns 1000000 * (the minutes of comfort of all rooms in these rounds) + (the units that the boiler "
                + "makes in them).");
        // Without leaks all of the 600 minutes are minutes of comfort of six rooms, more than an int can tell.
        MixerStation x = Check.station("M00060" + "r91510".repeat(6));
        Check.due("simulate(5, 60) without power", x.simulate(5, 60), 3600000000L);
        Check.due("simulate(5, 1) without power", x.simulate(5, 1), 60000000L);
        x.pass(60);
        Check.due("simulate(5, 1) behind an hour of comfort", x.simulate(5, 1), 60000000L);
        x.set(0, 200);
        long both = x.simulate(5, 60);
        Check.due("comfort with power", both / 1000000, 3600);
        Check.isTrue("units with power", both % 1000000 > 0);
        MixerStation none = Check.station("M20060");
        none.pass(60);
        Check.due("simulate(5, 60) without rooms", none.simulate(5, 60) / 1000000, 0);
        MixerStation idle = Check.station("M00060");
        Check.due("simulate(5, 60) without rooms and power", idle.simulate(5, 60), 0);
    }

    private static void windowsInRounds() {
        Check.sentence("if there are rooms, the window of room r / 64 % (number of rooms) is open from then on if "
                + "r / 512 % 4 is 0, and closed otherwise. Then 10 minutes go by.");
        for (int rooms = 1; rooms <= 6; rooms++) {
            String text = "M12060" + "r91659".repeat(rooms);
            for (long seed = 1; seed <= 4; seed++) {
                Check.due("simulate(" + seed + ", 60) of " + rooms, Check.station(text).simulate(seed, 60),
                        byHand(() -> Check.station(text), seed, 60));
            }
        }
        MixerStation x = Check.station("M06060r91659");
        x.window(0, true);
        x.simulate(1, 60);
        Check.due("the window is as it was", x.room(0, 3), 1);
        Check.due("the outside is as it was", x.about(2), 5);
    }

    private static void slots() {
        Check.sentence("slot: 0 or 1");
        MixerStation x = Check.station("M06060r32052");
        for (int slot : new int[] {-1, 2, Integer.MIN_VALUE, Integer.MAX_VALUE}) {
            Check.thrown("save(" + slot + ")", Check.INDEX, () -> x.save(slot));
            Check.thrown("restore(" + slot + ")", Check.INDEX, () -> x.restore(slot));
        }
        Check.due("save(0) at first", x.save(0), 0);
        x.pass(60);
        Check.due("save(1)", x.save(1), 60);
        for (int slot : new int[] {-1, 2}) {
            Check.thrown("restore(" + slot + ") with both saved", Check.INDEX, () -> x.restore(slot));
        }
        Check.due("restore(0)", x.restore(0), 0);
        Check.due("about(1)", x.about(1), 0);
        Check.due("restore(1)", x.restore(1), 60);
        Check.due("about(1)", x.about(1), 60);
        x.pass(1);
        Check.due("save(1) again", x.save(1), 61);
        Check.due("restore(0), the other one", x.restore(0), 0);
        Check.sentence("The save slot keeps it.");
        x.pass(5);
        x.set(0, 1);
        Check.due("restore(1) once", x.restore(1), 61);
        x.pass(5);
        Check.due("restore(1) twice", x.restore(1), 61);
        Check.due("about(1)", x.about(1), 61);
    }

    private static void emptySlots() {
        Check.sentence("Throws IllegalStateException if nothing has been saved in it since the last load");
        MixerStation x = Check.station("M06060r32052");
        x.pass(2);
        Check.thrown("restore(0) of nothing", Check.STATE, () -> x.restore(0));
        Check.thrown("restore(1) of nothing", Check.STATE, () -> x.restore(1));
        x.save(1);
        Check.thrown("restore(0) with the other one saved", Check.STATE, () -> x.restore(0));
        Check.due("undo() behind it", x.undo(), 0);
        x.restore(1);
        x.save(0);
        x.load();
        Check.thrown("restore(0) behind load()", Check.STATE, () -> x.restore(0));
        Check.thrown("restore(1) behind load()", Check.STATE, () -> x.restore(1));
        x.save(1);
        Check.thrown("restore(0) behind load() and save(1)", Check.STATE, () -> x.restore(0));
        Check.due("restore(1) behind load() and save(1)", x.restore(1), 0);
    }

    private static void restoreForgets() {
        Check.sentence("Replaces the state by the one in a save slot, and forgets all remembered states.");
        MixerStation x = Check.station("M06060r32052");
        x.save(0);
        for (int k = 1; k <= 15; k++) {
            x.set(0, k);
        }
        x.restore(0);
        Check.thrown("undo() behind restore()", Check.STATE, x::undo);
        Check.due("setting(0)", x.setting(0), 60);
        x.set(0, 99);
        Check.due("undo() behind one action", x.undo(), 0);
        Check.due("setting(0)", x.setting(0), 60);
        Check.thrown("undo() of restore()", Check.STATE, x::undo);
        // A state without rooms in the slot, six rooms now, and the other way round.
        MixerStation y = new MixerStation();
        y.save(0);
        for (int i = 0; i < 6; i++) {
            y.addRoom(9, 10, 1, 0);
        }
        y.save(1);
        Check.due("restore(0) without rooms", y.restore(0), 0);
        Check.due("about(0)", y.about(0), 0);
        Check.due("about(11)", y.about(11), 0);
        Check.thrown("place(2, 0)", Check.INDEX, () -> y.place(2, 0));
        y.restore(1);
        Check.due("about(0)", y.about(0), 6);
        Check.due("about(11)", y.about(11), 6);
        Check.thrown("a seventh", Check.STATE, () -> y.addRoom(9, 10, 1, 0));
    }
}
