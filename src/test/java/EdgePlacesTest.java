/** What it is, PLACES and SETTINGS: a test for each sentence that names a boundary case. */
public final class EdgePlacesTest {
    public static void main(String[] args) {
        lastCalls();
        roundedDownBelowZero();
        loopAndBoilerBelowZero();
        capacities();
        firstHeat();
        outsideRange();
        elsewhere();
        sixRooms();
        orderOfTheLedger();
        amountsOfNone();
        settings();
        loopShouldHave();
        roomRanges();
        Check.end("EdgePlacesTest");
    }

    private static void lastCalls() {
        Check.sentence("An object is used for at most 512 calls after it has been made");
        MixerStation x = new MixerStation();
        x.addRoom(1, 25, 9, 9);
        x.outside(-20);
        x.set(0, 200);
        x.set(1, 80);
        for (int call = 5; call <= 509; call++) {
            x.pass(60);
        }
        int made = x.moved(9, 0);
        int lost = x.moved(2, 8);
        Check.due("the call 512, about(10)", x.about(10), 2000 + 150 + made - lost);
        MixerStation y = new MixerStation();
        for (int call = 1; call <= 511; call++) {
            y.pass(60);
        }
        Check.due("the call 512, about(1)", y.about(1), 511 * 60);
    }

    /** A station without fuel behind 30 hours at -20 degrees: the boiler, the loop and all big rooms are as cold. */
    private static MixerStation frozen() {
        MixerStation x = Check.station("M00060r11011r91099r91099r91099r91099r91099o-20s400");
        for (int i = 1; i < 6; i++) {
            x.window(i, true);
        }
        for (int hour = 0; hour < 30; hour++) {
            x.pass(60);
        }
        return x;
    }

    private static void roundedDownBelowZero() {
        Check.sentence("the temperature of such a place in degrees is its heat / its capacity, "
                + "rounded down (also below 0: -1 / 10 gives -1).");
        MixerStation x = frozen();
        x.outside(-6);
        x.pass(60);
        x.pass(60);
        Check.due("the room with a leak of 1 stops where it is as warm as the outside", x.place(2, 0), -60);
        // From here on it gets 1 unit a minute, as long as it is 1 to 8 degrees colder than the outside.
        x.outside(0);
        for (int heat = -59; heat <= 0; heat++) {
            x.pass(1);
            Check.due("heat of the room", x.place(2, 0), heat);
            Check.due("temperature at the heat " + heat, x.place(2, 1), -((9 - heat) / 10));
        }
        x.outside(2);
        for (int heat = 1; heat <= 20; heat++) {
            x.pass(1);
            Check.due("heat of the room", x.place(2, 0), heat);
            Check.due("temperature at the heat " + heat, x.place(2, 1), heat / 10);
        }
        x.undo();
        Check.due("heat behind undo()", x.place(2, 0), 19);
        Check.due("ahead(2, 0) at the heat 19", x.ahead(2, 0), 1);
    }

    private static void loopAndBoilerBelowZero() {
        Check.sentence("rounded down (also below 0: -1 / 10 gives -1).");
        MixerStation x = Check.station("M00060r91099r91099o-20s400");
        x.window(0, true);
        x.window(1, true);
        boolean[] met = new boolean[2];
        for (int k = 0; k < 50; k++) {
            x.pass(5);
            for (int p = 0; p < 2; p++) {
                int heat = x.place(p, 0);
                int degrees = x.place(p, 1);
                int capacity = 40 + 20 * p;
                met[p] |= heat < 0 && heat % capacity != 0;
                Check.isTrue("the temperature " + degrees + " of the place " + p + " at the heat " + heat,
                        degrees * capacity <= heat && heat < (degrees + 1) * capacity);
            }
        }
        Check.isTrue("both were between two degrees below 0", met[0] && met[1]);
    }

    private static void capacities() {
        Check.sentence("The boiler has the capacity 40, the loop 60, and a room 10 to 90");
        MixerStation x = new MixerStation();
        Check.due("capacity of the boiler", x.place(0, 2), 40);
        Check.due("capacity of the loop", x.place(1, 2), 60);
        Check.thrown("a room of 0", Check.ARGUMENT, () -> x.addRoom(0, 20, 5, 5));
        x.addRoom(1, 20, 5, 5);
        x.addRoom(9, 20, 5, 5);
        Check.thrown("a room of 100", Check.ARGUMENT, () -> x.addRoom(10, 20, 5, 5));
        Check.due("the least room", x.place(2, 2), 10);
        Check.due("the greatest room", x.place(3, 2), 90);
    }

    private static void firstHeat() {
        Check.sentence("at first the boiler and the loop have 20 degrees (this heat came along no way).");
        MixerStation x = new MixerStation();
        Check.due("heat of the boiler", x.place(0, 0), 800);
        Check.due("temperature of the boiler", x.place(0, 1), 20);
        Check.due("heat of the loop", x.place(1, 0), 1200);
        Check.due("temperature of the loop", x.place(1, 1), 20);
        Check.due("about(11)", x.about(11), 0);
        Check.thrown("way(0, 0)", Check.INDEX, () -> x.way(0, 0));
        for (int place = 0; place <= 99; place++) {
            Check.due("moved(" + place / 10 + ", " + place % 10 + ")", x.moved(place / 10, place % 10), 0);
        }
    }

    private static void outsideRange() {
        Check.sentence("Place 8 is the outside, with a temperature from -20 to 40, at first 5");
        MixerStation x = new MixerStation();
        Check.due("about(2)", x.about(2), 5);
        Check.thrown("outside(-21)", Check.ARGUMENT, () -> x.outside(-21));
        Check.due("outside(-20)", x.outside(-20), 5);
        Check.thrown("outside(41)", Check.ARGUMENT, () -> x.outside(41));
        Check.due("outside(40)", x.outside(40), -20);
        Check.due("about(2)", x.about(2), 40);
    }

    private static void elsewhere() {
        Check.sentence("place 9 is elsewhere (fuel, and what a new room brings with it).");
        MixerStation x = Check.station("M01060s300r11010");
        x.addRoom(9, 10, 1, 0);
        x.pass(1);
        Check.due("fuel", x.moved(9, 0), 10);
        Check.due("what the least room brings", x.moved(9, 2), 150);
        Check.due("what the greatest room brings", x.moved(9, 3), 1350);
        Check.due("there are no other ways", x.about(11), 3);
    }

    private static void sixRooms() {
        Check.sentence("There are at most 6 rooms, numbered from 0.");
        MixerStation x = new MixerStation();
        Check.thrown("room(0, 0) of none", Check.INDEX, () -> x.room(0, 0));
        Check.thrown("place(2, 0) of none", Check.INDEX, () -> x.place(2, 0));
        for (int i = 0; i < 6; i++) {
            Check.due("addRoom()", x.addRoom(i + 1, 10 + i, 9 - i, i), i);
            Check.due("about(0)", x.about(0), i + 1);
        }
        Check.thrown("a seventh room", Check.STATE, () -> x.addRoom(1, 10, 1, 0));
        Check.due("about(0)", x.about(0), 6);
        for (int i = 0; i < 6; i++) {
            Check.due("wanted temperature of the room " + i, x.room(i, 0), 10 + i);
            Check.due("capacity of the room " + i, x.place(2 + i, 2), 10 + 10 * i);
        }
        Check.thrown("room(6, 0)", Check.INDEX, () -> x.room(6, 0));
        Check.thrown("place(8, 0)", Check.INDEX, () -> x.place(8, 0));
        Check.thrown("place(9, 0)", Check.INDEX, () -> x.place(9, 0));
        Check.thrown("setRoom(6, 0, 20)", Check.INDEX, () -> x.setRoom(6, 0, 20));
        Check.thrown("window(6, true)", Check.INDEX, () -> x.window(6, true));
        Check.thrown("ahead(8, 0)", Check.INDEX, () -> x.ahead(8, 0));
        Check.thrown("minutesTo(6)", Check.INDEX, () -> x.minutesTo(6));
        Check.due("a script with the room 5", x.runScript(2, 45008500L), MixerStation.NONE);
        Check.due("a script with the room 6", x.runScript(1, 4600), 0);
        Check.due("a script with the place 7", x.runScript(1, 6715), MixerStation.NONE);
        Check.due("a script with the place 8", x.runScript(1, 6800), 0);
    }

    private static void orderOfTheLedger() {
        Check.sentence("in the order in which it first went along them, each with the sum of all amounts.");
        MixerStation x = Check.station("M06060" + "r92519".repeat(6) + "o-20");
        x.pass(5);
        x.outside(40);
        x.pass(60);
        x.outside(-20);
        x.pass(60);
        Check.due("as many ways as there can be", x.about(11), 26);
        int[] due = new int[26];
        for (int i = 0; i < 6; i++) {
            due[i] = 92 + i;
            due[6 + i] = 12 + i;
            due[12 + i] = 28 + 10 * i;
            due[20 + i] = 82 + i;
        }
        due[18] = 1;
        due[19] = 90;
        for (int k = 0; k < 26; k++) {
            Check.due("from and to of the way " + k, 10 * x.way(k, 0) + x.way(k, 1), due[k]);
            Check.due("sum of the way " + k, x.way(k, 2), x.moved(due[k] / 10, due[k] % 10));
        }
        Check.thrown("way(26, 0)", Check.INDEX, () -> x.way(26, 0));
        for (int i = 0; i < 6; i++) {
            Check.due("heat of the room " + i, x.place(2 + i, 0),
                    x.moved(9, 2 + i) + x.moved(1, 2 + i) + x.moved(8, 2 + i) - x.moved(2 + i, 8));
        }
        Check.due("heat of the boiler", x.place(0, 0), 800 + x.moved(9, 0) - x.moved(0, 1));
    }

    private static void amountsOfNone() {
        Check.sentence("An amount of 0 is no way.");
        // The loop loses 1 unit to the room, so it has 19 degrees, and 1 * 20 * 1 / 100 = 0 come from the boiler.
        MixerStation x = Check.station("M00060r91610s601");
        x.pass(2);
        Check.due("share", x.about(5), 20);
        Check.due("the boiler is warmer than the loop", x.place(0, 1) - x.place(1, 1), 1);
        Check.due("moved(0, 1) of 20 / 100", x.moved(0, 1), 0);
        Check.due("ways: the room's first heat, loop to room", x.about(11), 2);
        x.set(6, 5);
        x.pass(1);
        Check.due("moved(0, 1) of 100 / 100", x.moved(0, 1), 1);
        Check.due("the third way", x.about(11), 3);
        // 1 * (15 - 8) / 8 = 0.
        MixerStation y = Check.station("M00060r91011o+08s400");
        y.pass(1);
        Check.due("a leak of 7 / 8", y.about(11), 1);
        y.outside(15);
        y.pass(1);
        Check.due("a leak of 0 / 8", y.about(11), 1);
        y.outside(7);
        y.pass(1);
        Check.due("a leak of 8 / 8", y.about(11), 2);
        Check.due("moved(2, 8)", y.moved(2, 8), 1);
    }

    private static void range(int what, String words, int low, int high, int first) {
        Check.sentence(words);
        MixerStation x = new MixerStation();
        Check.due("setting(" + what + ") at first", x.setting(what), first);
        Check.thrown("set(" + what + ", " + (low - 1) + ")", Check.ARGUMENT, () -> x.set(what, low - 1));
        Check.due("set(" + what + ", " + low + ")", x.set(what, low), first);
        Check.thrown("set(" + what + ", " + (high + 1) + ")", Check.ARGUMENT, () -> x.set(what, high + 1));
        Check.due("set(" + what + ", " + high + ")", x.set(what, high), low);
        Check.due("setting(" + what + ")", x.setting(what), high);
    }

    private static void settings() {
        range(0, "0: the power of the boiler, 0 to 200 units per minute, at first 60.", 0, 200, 60);
        range(1, "1: its setpoint, 30 to 80, at first 60.", 30, 80, 60);
        range(2, "2: its minimum run, 0 to 30, at first 5.", 0, 30, 5);
        range(3, "3: its minimum rest, 0 to 30, at first 3.", 0, 30, 3);
        range(4, "4: the slope, 0 to 30, at first 12.", 0, 30, 12);
        range(5, "5: the speed of the valve, 1 to 50, at first 20.", 1, 50, 20);
        range(6, "6: the flow, 1 to 20, at first 10.", 1, 20, 10);
        range(7, "7: the pinch, 0 to 60, at first 35.", 0, 60, 35);
        range(8, "8: the summer limit, 10 to 30, at first 18.", 10, 30, 18);
    }

    private static void loopShouldHave() {
        Check.sentence("The loop should have 20 + slope * (20 - the temperature outside) / 10 degrees "
                + "(rounded down, but at most 70), or 20 if it is 20 or more degrees outside.");
        // slope, outside, due
        int[][] rows = {{12, 19, 21}, {9, 19, 20}, {10, 19, 21}, {30, 19, 23}, {12, 20, 20}, {30, 20, 20}, {30, 21, 20},
            {30, 40, 20}, {0, -20, 20}, {0, 40, 20}, {1, 11, 20}, {1, 10, 21}, {7, 13, 24}, {12, -20, 68},
            {13, -20, 70}, {24, 0, 68}, {25, 0, 70}, {26, 0, 70}, {27, 1, 70}, {26, 1, 69}, {30, 4, 68}, {30, 3, 70},
            {30, -20, 70}};
        MixerStation x = new MixerStation();
        for (int[] row : rows) {
            x.set(4, row[0]);
            x.outside(row[1]);
            Check.due("about(8) with the slope " + row[0] + " at " + row[1], x.about(8), row[2]);
        }
    }

    private static void roomRanges() {
        Check.sentence("A room has a wanted temperature from 10 to 25, radiators from 1 to 9, a leak from 0 to 9, "
                + "and a window that is open or closed (at first closed).");
        MixerStation x = new MixerStation();
        int[][] wrong = {{9, 1, 0}, {26, 9, 9}, {10, 0, 0}, {25, 10, 9}, {10, 1, -1}, {25, 9, 10}};
        for (int[] a : wrong) {
            Check.thrown("addRoom(5, " + a[0] + ", " + a[1] + ", " + a[2] + ")", Check.ARGUMENT,
                    () -> x.addRoom(5, a[0], a[1], a[2]));
        }
        x.addRoom(5, 10, 1, 0);
        x.addRoom(5, 25, 9, 9);
        int[] least = {10, 1, 0, 0};
        int[] most = {25, 9, 9, 0};
        for (int what = 0; what <= 3; what++) {
            Check.due("room(0, " + what + ")", x.room(0, what), least[what]);
            Check.due("room(1, " + what + ")", x.room(1, what), most[what]);
        }
        x.window(1, true);
        Check.due("the window is open", x.room(1, 3), 1);
        Check.due("the other one is closed", x.room(0, 3), 0);
    }
}
