import java.util.ArrayList;
import java.util.List;
import java.util.function.Supplier;
import java.util.function.ToLongFunction;

/**
 * EXCEPTIONS: of each call that throws, which exception it is, and that it changes nothing: neither the state, nor
 * the text, nor a save slot, nor what is remembered. The same for each call that only asks.
 */
public final class EdgeRefusalTest {
    private static final int MIN = Integer.MIN_VALUE;
    private static final int MAX = Integer.MAX_VALUE;
    private static final String FULL = "M06060" + "r11010".repeat(5) + "o+07".repeat(11);

    private static String name;
    private static Supplier<MixerStation> make;
    private static List<String> due;

    public static void main(String[] args) {
        with("a new object", MixerStation::new, 0, 0);
        with("a used object", EdgeRefusalTest::used, 2, 8);
        with("a full object", EdgeRefusalTest::full, 6, 26);
        Check.end("EdgeRefusalTest");
    }

    private static MixerStation used() {
        MixerStation x = Check.station("M08060r32052r91499o-05");
        x.pass(30);
        x.window(1, true);
        x.save(1);
        x.set(0, 77);
        x.clearText();
        x.append('M');
        x.append('1');
        return x;
    }

    /** Six rooms, all ways, 14 remembered states, both slots saved, 80 characters that are no station. */
    private static MixerStation full() {
        MixerStation x = Check.station("M06060" + "r92519".repeat(6) + "o-20");
        x.pass(5);
        x.outside(40);
        x.pass(60);
        x.outside(-20);
        x.save(0);
        x.pass(60);
        for (int k = 1; k <= 13; k++) {
            x.set(0, 60 + k);
        }
        x.save(1);
        x.pass(1);
        Check.type(x, FULL.substring(0, 79) + "x");
        return x;
    }

    private static void with(String what, Supplier<MixerStation> supplier, int rooms, int ways) {
        name = what;
        make = supplier;
        due = everything(x -> 0);
        Check.due("the rooms of " + what, make.get().about(0), rooms);
        Check.due("the ways of " + what, make.get().about(11), ways);
        Check.sentence("A call that throws an exception changes nothing.");
        text(rooms);
        rooms(rooms);
        numbers(rooms, ways);
        actions(rooms);
        looks(rooms);
        scripts();
        slots();
        Check.sentence("If several exceptions apply to a call, the one that its description names first is thrown.");
        namedFirst(rooms, ways);
        Check.sentence("what would be, without other changes; these and all following methods up to the save slots change "
                + "nothing.");
        asks(rooms, ways);
    }

    private static String tried(MixerStation x, ToLongFunction<MixerStation> call) {
        try {
            return Long.toString(call.applyAsLong(x));
        } catch (RuntimeException e) {
            return e.getClass().getSimpleName();
        }
    }

    /** All that an object has behind the call; each part is asked of an object of its own, as asking may change it. */
    private static List<String> everything(ToLongFunction<MixerStation> call) {
        List<String> all = new ArrayList<>();
        for (int undone = 0; undone <= 15; undone++) {
            MixerStation x = behind(call);
            String answer = "";
            for (int k = 0; k < undone; k++) {
                answer = tried(x, MixerStation::undo);
            }
            all.add("undone " + undone + " times: " + answer + " " + Check.picture(x));
        }
        for (int slot = 0; slot <= 1; slot++) {
            int s = slot;
            MixerStation x = behind(call);
            String answer = tried(x, y -> y.restore(s));
            all.add("restored from " + slot + ": " + answer + " " + Check.picture(x));
        }
        MixerStation text = behind(call);
        all.add("the text: " + text.errorPosition() + " of " + text.clearText());
        MixerStation longer = behind(call);
        String answer = tried(longer, y -> y.append('6'));
        all.add("the text with 6: " + answer + ", " + longer.errorPosition());
        return all;
    }

    private static MixerStation behind(ToLongFunction<MixerStation> call) {
        MixerStation x = make.get();
        tried(x, call);
        return x;
    }

    private static void same(String call, ToLongFunction<MixerStation> run) {
        List<String> got = everything(run);
        for (int k = 0; k < due.size(); k++) {
            Check.isTrue(call + " of " + name + " leaves as it was, " + due.get(k) + " and not " + got.get(k),
                    got.get(k).equals(due.get(k)));
        }
    }

    private static void refused(String call, Class<? extends RuntimeException> want, ToLongFunction<MixerStation> run) {
        MixerStation x = make.get();
        Check.thrown(call + " of " + name, want, () -> run.applyAsLong(x));
        same(call, run);
    }

    private static void text(int rooms) {
        Check.sentence("Throws IllegalArgumentException if c is out of range");
        for (int c : new int[] {-1, 256, MIN, MAX}) {
            refused("append(" + c + ")", Check.ARGUMENT, x -> x.append(c));
        }
        if (rooms == 6) {
            Check.sentence("Throws IllegalStateException if the text already has 80 characters");
            for (int c : new int[] {0, 'M', 255}) {
                refused("append(" + c + ")", Check.STATE, x -> x.append(c));
            }
        }
        Check.sentence("Throws IllegalStateException if the text is not a station");
        refused("load()", Check.STATE, MixerStation::load);
    }

    private static void numbers(int rooms, int ways) {
        Check.sentence("Throws IllegalArgumentException if what is not 0 to 12");
        for (int what : new int[] {-1, 13, MIN, MAX}) {
            refused("about(" + what + ")", Check.ARGUMENT, x -> x.about(what));
        }
        Check.sentence("Throws IllegalArgumentException if what is out of range");
        for (int what : new int[] {-1, 9, MIN, MAX}) {
            refused("setting(" + what + ")", Check.ARGUMENT, x -> x.setting(what));
        }
        Check.sentence("Throws IndexOutOfBoundsException if there is no such place with heat");
        for (int p : new int[] {-1, 2 + rooms, 8, 9, MIN, MAX}) {
            refused("place(" + p + ", 0)", Check.INDEX, x -> x.place(p, 0));
            refused("place(" + p + ", 3)", Check.INDEX, x -> x.place(p, 3));
        }
        Check.sentence("Throws IllegalArgumentException if what is not 0 to 2");
        for (int what : new int[] {-1, 3, MIN, MAX}) {
            refused("place(0, " + what + ")", Check.ARGUMENT, x -> x.place(0, what));
            refused("place(last, " + what + ")", Check.ARGUMENT, x -> x.place(1 + rooms, what));
            if (ways > 0) {
                refused("way(0, " + what + ")", Check.ARGUMENT, x -> x.way(0, what));
                refused("way(last, " + what + ")", Check.ARGUMENT, x -> x.way(ways - 1, what));
            }
        }
        Check.sentence("Throws IndexOutOfBoundsException if there is no such way");
        for (int k : new int[] {-1, ways, MIN, MAX}) {
            refused("way(" + k + ", 0)", Check.INDEX, x -> x.way(k, 0));
            refused("way(" + k + ", 3)", Check.INDEX, x -> x.way(k, 3));
        }
        Check.sentence("Throws IllegalArgumentException if from or to is out of range");
        for (int p : new int[] {-1, 10, MIN, MAX}) {
            refused("moved(" + p + ", 9)", Check.ARGUMENT, x -> x.moved(p, 9));
            refused("moved(0, " + p + ")", Check.ARGUMENT, x -> x.moved(0, p));
        }
    }

    private static void rooms(int rooms) {
        Check.sentence("Throws IndexOutOfBoundsException if there is no such room");
        for (int i : new int[] {-1, rooms, MIN, MAX}) {
            refused("room(" + i + ", 0)", Check.INDEX, x -> x.room(i, 0));
            refused("room(" + i + ", 7)", Check.INDEX, x -> x.room(i, 7));
            refused("setRoom(" + i + ", 0, 20)", Check.INDEX, x -> x.setRoom(i, 0, 20));
            refused("setRoom(" + i + ", 3, 20)", Check.INDEX, x -> x.setRoom(i, 3, 20));
            refused("setRoom(" + i + ", 0, 9)", Check.INDEX, x -> x.setRoom(i, 0, 9));
            refused("window(" + i + ", true)", Check.INDEX, x -> x.window(i, true));
            refused("window(" + i + ", false)", Check.INDEX, x -> x.window(i, false));
            refused("minutesTo(" + i + ")", Check.INDEX, x -> x.minutesTo(i));
        }
        if (rooms == 0) {
            return;
        }
        Check.sentence("Throws IllegalArgumentException if what is not 0 to 6");
        for (int what : new int[] {-1, 7, MIN, MAX}) {
            refused("room(last, " + what + ")", Check.ARGUMENT, x -> x.room(rooms - 1, what));
        }
        Check.sentence("Throws IllegalArgumentException if what or v is out of range");
        int[][] wrong = {{0, 9}, {0, 26}, {1, 0}, {1, 10}, {2, -1}, {2, 10}, {3, 5}, {-1, 5}, {0, MIN}, {1, MAX}, {2, MAX}};
        for (int[] a : wrong) {
            refused("setRoom(0, " + a[0] + ", " + a[1] + ")", Check.ARGUMENT, x -> x.setRoom(0, a[0], a[1]));
        }
    }

    private static void actions(int rooms) {
        Check.sentence("Throws IllegalArgumentException if an argument is out of range");
        int[][] wrong = {{0, 20, 5, 5}, {10, 20, 5, 5}, {5, 9, 5, 5}, {5, 26, 5, 5}, {5, 20, 0, 5}, {5, 20, 10, 5},
            {5, 20, 5, -1}, {5, 20, 5, 10}, {MAX, 20, 5, 5}, {5, 20, 5, MIN}};
        for (int[] a : wrong) {
            refused("addRoom(" + a[0] + ", " + a[1] + ", " + a[2] + ", " + a[3] + ")", Check.ARGUMENT,
                    x -> x.addRoom(a[0], a[1], a[2], a[3]));
        }
        if (rooms == 6) {
            Check.sentence("Throws IllegalStateException if there are 6 rooms");
            refused("a seventh addRoom", Check.STATE, x -> x.addRoom(5, 20, 5, 5));
        }
        Check.sentence("Throws IllegalArgumentException if what or v is out of range");
        int[] low = {0, 30, 0, 0, 0, 1, 1, 0, 10};
        int[] high = {200, 80, 30, 30, 30, 50, 20, 60, 30};
        for (int what = 0; what <= 8; what++) {
            int w = what;
            refused("set(" + w + ", too low)", Check.ARGUMENT, x -> x.set(w, low[w] - 1));
            refused("set(" + w + ", too high)", Check.ARGUMENT, x -> x.set(w, high[w] + 1));
        }
        for (int what : new int[] {-1, 9, MIN, MAX}) {
            refused("set(" + what + ", 20)", Check.ARGUMENT, x -> x.set(what, 20));
        }
        Check.sentence("Throws IllegalArgumentException if degrees is out of range");
        for (int degrees : new int[] {-21, 41, MIN, MAX}) {
            refused("outside(" + degrees + ")", Check.ARGUMENT, x -> x.outside(degrees));
        }
        Check.sentence("Throws IllegalArgumentException if minutes is out of range");
        for (int minutes : new int[] {0, 61, -1, MIN, MAX}) {
            refused("pass(" + minutes + ")", Check.ARGUMENT, x -> x.pass(minutes));
        }
        if (rooms == 0) {
            Check.sentence("Throws IllegalStateException if none is remembered");
            refused("undo()", Check.STATE, MixerStation::undo);
        }
    }

    private static void looks(int rooms) {
        Check.sentence("Throws IllegalArgumentException if minutes is out of range");
        for (int minutes : new int[] {-1, 241, MIN, MAX}) {
            refused("ahead(0, " + minutes + ")", Check.ARGUMENT, x -> x.ahead(0, minutes));
            refused("ahead(last, " + minutes + ")", Check.ARGUMENT, x -> x.ahead(1 + rooms, minutes));
            refused("ahead(behind the last, " + minutes + ")", Check.INDEX, x -> x.ahead(2 + rooms, minutes));
            refused("bestSlope(" + minutes + ")", Check.ARGUMENT, x -> x.bestSlope(minutes));
            refused("leastPower(" + minutes + ")", Check.ARGUMENT, x -> x.leastPower(minutes));
            refused("heatFor(" + minutes + ")", Check.ARGUMENT, x -> x.heatFor(minutes));
        }
        Check.sentence("Throws IndexOutOfBoundsException if there is no such place with heat");
        for (int p : new int[] {-1, 2 + rooms, 8, 9, MIN, MAX}) {
            refused("ahead(" + p + ", 5)", Check.INDEX, x -> x.ahead(p, 5));
        }
        Check.sentence("Throws IllegalArgumentException if minutes is out of range");
        refused("bestSlope(0)", Check.ARGUMENT, x -> x.bestSlope(0));
    }

    private static void scripts() {
        Check.sentence("Throws IllegalArgumentException if n is out of range, or if script is negative or has more than 4 * n digits");
        for (int n : new int[] {0, 5, -1, MIN, MAX}) {
            refused("runScript(" + n + ", 0)", Check.ARGUMENT, x -> x.runScript(n, 0));
            refused("runScript(" + n + ", 1060)", Check.ARGUMENT, x -> x.runScript(n, 1060));
        }
        long beyond = 1;
        for (int n = 1; n <= 4; n++) {
            int count = n;
            beyond *= 10000;
            long first = beyond;
            refused("runScript(" + n + ", " + first + ")", Check.ARGUMENT, x -> x.runScript(count, first));
            refused("runScript(" + n + ", -1)", Check.ARGUMENT, x -> x.runScript(count, -1));
            refused("runScript(" + n + ", -1060)", Check.ARGUMENT, x -> x.runScript(count, -1060));
        }
        refused("runScript(4, MIN)", Check.ARGUMENT, x -> x.runScript(4, Long.MIN_VALUE));
        refused("runScript(4, MAX)", Check.ARGUMENT, x -> x.runScript(4, Long.MAX_VALUE));
        Check.sentence("Throws IllegalArgumentException if m is out of range");
        for (int m : new int[] {0, 61, -1, MIN, MAX}) {
            refused("simulate(1, " + m + ")", Check.ARGUMENT, x -> x.simulate(1, m));
        }
    }

    private static void slots() {
        Check.sentence("Throws IndexOutOfBoundsException if there is no such save slot");
        for (int slot : new int[] {-1, 2, MIN, MAX}) {
            refused("save(" + slot + ")", Check.INDEX, x -> x.save(slot));
            refused("restore(" + slot + ")", Check.INDEX, x -> x.restore(slot));
        }
        Check.sentence("Throws IllegalStateException if nothing has been saved in it since the last load");
        if (!name.equals("a full object")) {
            refused("restore(0) of nothing", Check.STATE, x -> x.restore(0));
        }
        if (name.equals("a new object")) {
            refused("restore(1) of nothing", Check.STATE, x -> x.restore(1));
        }
    }

    private static void namedFirst(int rooms, int ways) {
        refused("place(none, 3)", Check.INDEX, x -> x.place(2 + rooms, 3));
        refused("room(none, 7)", Check.INDEX, x -> x.room(rooms, 7));
        refused("way(none, 3)", Check.INDEX, x -> x.way(ways, 3));
        refused("setRoom(none, 3, 99)", Check.INDEX, x -> x.setRoom(rooms, 3, 99));
        refused("ahead(none, 241)", Check.INDEX, x -> x.ahead(2 + rooms, 241));
        // Of these two the second exception is due only in some of the objects.
        refused("append(256)", Check.ARGUMENT, x -> x.append(256));
        refused("addRoom(10, 26, 10, 10)", Check.ARGUMENT, x -> x.addRoom(10, 26, 10, 10));
        refused("restore(2)", Check.INDEX, x -> x.restore(2));
    }

    private static void asks(int rooms, int ways) {
        same("errorPosition()", MixerStation::errorPosition);
        same("about(12)", x -> x.about(12));
        same("setting(8)", x -> x.setting(8));
        same("place(last, 2)", x -> x.place(1 + rooms, 2));
        same("moved(9, 9)", x -> x.moved(9, 9));
        same("ahead(last, 240)", x -> x.ahead(1 + rooms, 240));
        same("whyOff()", MixerStation::whyOff);
        same("whyShare()", MixerStation::whyShare);
        same("bestSlope(240)", x -> x.bestSlope(240));
        same("leastPower(240)", x -> x.leastPower(240));
        same("heatFor(240)", x -> x.heatFor(240));
        same("runScript(4, ...)", x -> x.runScript(4, 1060212030001060L));
        same("runScript(1, 0)", x -> x.runScript(1, 0));
        same("simulate(1, 60)", x -> x.simulate(1, 60));
        if (rooms > 0) {
            same("room(last, 6)", x -> x.room(rooms - 1, 6));
            same("way(last, 2)", x -> x.way(ways - 1, 2));
            same("minutesTo(last)", x -> x.minutesTo(rooms - 1));
            same("runScript(3, ...)", x -> x.runScript(3, 400150251060L));
        }
    }
}
