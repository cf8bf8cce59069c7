/** What it is and Terms: a test for each sentence that names no boundary case, with answers reckoned by hand. */
public final class PlainTermsTest {
    private static final int NONE = MixerStation.NONE;

    public static void main(String[] args) {
        whatItFinds();
        nothingButAlongTheWays();
        changesCanBeUndone();
        placesWithHeat();
        noted();
        power();
        setpoint();
        minimumRun();
        minimumRest();
        slope();
        speed();
        flow();
        pinch();
        summerLimit();
        seasonBeforeBoiler();
        boilerBeforeValve();
        valveBeforeMixing();
        mixingBeforeRooms();
        roomsBeforeLeaks();
        minutesLast();
        atFirst();
        noFireInSummer();
        onOrOffForMinutes();
        leftToRight();
        digitsWithoutNumber();
        theState();
        exceptions();
        noResult();
        Check.end("PlainTermsTest");
    }

    private static void whatItFinds() {
        Check.sentence("It keeps a ledger of all ways along which heat went, tells why the boiler does not burn and why "
                + "the valve is not open, and finds the slope, the power and the time that are needed.");
        // A room of 10 units a degree that gets 1 unit a minute: 16 degrees behind 10 minutes.
        MixerStation x = Check.station("M00060r11610");
        Check.due("about(11)", x.about(11), 1);
        Check.due("whyOff()", x.whyOff(), 3);
        Check.due("whyShare()", x.whyShare(), 3);
        Check.due("minutesTo(0)", x.minutesTo(0), 10);
        Check.due("leastPower(10)", x.leastPower(10), 0);
        Check.due("bestSlope(10)", x.bestSlope(10), 0);
    }

    private static void nothingButAlongTheWays() {
        Check.sentence("No heat is made or lost but along these ways.");
        MixerStation x = Check.station("M12060r32052r91499r11510o-12");
        x.window(1, true);
        for (int outside : new int[] {-20, 5, 40, 17}) {
            x.outside(outside);
            x.pass(60);
            for (int p = 0; p <= 4; p++) {
                int due = p == 0 ? 800 : p == 1 ? 1200 : 0;
                for (int other = 0; other <= 9; other++) {
                    due += x.moved(other, p) - x.moved(p, other);
                }
                Check.due("heat of the place " + p, x.place(p, 0), due);
            }
        }
        Check.due("room to room", x.moved(2, 3) + x.moved(3, 4) + x.moved(4, 2), 0);
    }

    private static void changesCanBeUndone() {
        Check.sentence("Changes can be undone.");
        MixerStation x = Check.station("M06060r32052");
        x.pass(10);
        String before = Check.picture(x);
        x.addRoom(1, 20, 5, 5);
        undone(x, "addRoom", before);
        x.setRoom(0, 1, 9);
        undone(x, "setRoom", before);
        x.window(0, true);
        undone(x, "window", before);
        x.set(4, 30);
        undone(x, "set", before);
        x.outside(-20);
        undone(x, "outside", before);
        x.pass(60);
        undone(x, "pass", before);
    }

    private static void undone(MixerStation x, String action, String before) {
        Check.isTrue(action + " makes a change", !Check.picture(x).equals(before));
        x.undo();
        Check.isTrue(action + " is undone", Check.picture(x).equals(before));
    }

    private static void placesWithHeat() {
        Check.sentence("The places 0 (the boiler), 1 (the loop) and 2 + i (the room i) have a heat and a capacity;");
        MixerStation x = Check.station("M06060r11510r31510r91510r21510r81510r51510");
        int[] capacities = {40, 60, 10, 30, 90, 20, 80, 50};
        for (int p = 0; p < capacities.length; p++) {
            Check.due("capacity of the place " + p, x.place(p, 2), capacities[p]);
            Check.due("heat of the place " + p, x.place(p, 0), (p < 2 ? 20 : 15) * capacities[p]);
        }
    }

    private static void noted() {
        Check.sentence("Whenever a positive amount of heat goes from one place to another one, this is noted in the ledger: "
                + "the ledger has the ways (from, to) along which heat went so far,");
        MixerStation x = Check.station("M06060r32052");
        ways(x, "at first", 9, 2, 450);
        x.pass(1);
        ways(x, "behind 1 minute", 9, 2, 450, 1, 2, 6, 2, 8, 2);
        x.pass(1);
        ways(x, "behind 2 minutes", 9, 2, 450, 1, 2, 11, 2, 8, 4, 0, 1, 2);
        x.pass(1);
        ways(x, "behind 3 minutes", 9, 2, 450, 1, 2, 16, 2, 8, 6, 0, 1, 2);
        x.pass(1);
        ways(x, "behind 4 minutes", 9, 2, 450, 1, 2, 21, 2, 8, 8, 0, 1, 6, 9, 0, 60);
        x.set(0, 0);
        x.outside(40);
        x.pass(1);
        Check.due("a way and the way back are two", x.about(11), 6);
        Check.due("from the outside", x.way(5, 0), 8);
        Check.due("to the room", x.way(5, 1), 2);
        Check.due("to the outside no more", x.moved(2, 8), 8);
    }

    private static void ways(MixerStation x, String when, int... due) {
        Check.due("about(11) " + when, x.about(11), due.length / 3);
        for (int k = 0; k < due.length; k++) {
            Check.due("way(" + k / 3 + ", " + k % 3 + ") " + when, x.way(k / 3, k % 3), due[k]);
        }
        for (int k = 0; k < due.length; k += 3) {
            Check.due("moved " + when, x.moved(due[k], due[k + 1]), due[k + 2]);
        }
    }

    private static void power() {
        Check.sentence("0: the power of the boiler, 0 to 200 units per minute, at first 60.");
        for (int power : new int[] {0, 1, 60, 199, 200}) {
            MixerStation x = Check.station("M06060s300s400");
            Check.due("at first", x.setting(0), 60);
            x.set(0, power);
            x.pass(1);
            Check.due("units in 1 minute", x.moved(9, 0), power);
            x.pass(1);
            Check.due("units in 2 minutes", x.moved(9, 0), 2 * power);
        }
    }

    // 5 degrees a minute, all of which stay in the boiler.
    private static void setpoint() {
        Check.sentence("1: its setpoint, 30 to 80, at first 60.");
        int[][] due = {{30, 35}, {31, 40}, {35, 40}, {36, 45}, {60, 65}, {80, 85}};
        for (int[] each : due) {
            MixerStation x = Check.station("M20060s200s300s400");
            Check.due("at first", new MixerStation().setting(1), 60);
            x.set(1, each[0]);
            Check.due("degrees behind an hour", x.ahead(0, 60), each[1]);
        }
    }

    private static void minimumRun() {
        Check.sentence("2: its minimum run, 0 to 30, at first 5.");
        Check.due("at first", new MixerStation().setting(2), 5);
        int[][] due = {{0, 3}, {3, 3}, {4, 4}, {5, 5}, {10, 10}, {13, 13}, {30, 14}};
        for (int[] each : due) {
            MixerStation x = Check.station("M20030s300s400");
            x.set(2, each[0]);
            x.pass(60);
            Check.due("minutes with fuel with the minimum run " + each[0], x.moved(9, 0) / 200, each[1]);
        }
    }

    private static void minimumRest() {
        Check.sentence("3: its minimum rest, 0 to 30, at first 3.");
        Check.due("at first", new MixerStation().setting(3), 3);
        for (int rest : new int[] {0, 1, 3, 29, 30}) {
            MixerStation x = Check.station("M20060");
            x.set(3, rest);
            Check.due("minutes " + rest, x.heatFor(rest), 0);
            Check.due("minutes " + (rest + 1), x.heatFor(rest + 1), 200);
        }
    }

    private static void slope() {
        Check.sentence("4: the slope, 0 to 30, at first 12.");
        MixerStation x = new MixerStation();
        Check.due("at first", x.setting(4), 12);
        int[][] due = {{12, 38}, {0, 20}, {1, 21}, {2, 23}, {29, 63}, {30, 65}};
        for (int[] each : due) {
            x.set(4, each[0]);
            Check.due("degrees with the slope " + each[0], x.about(8), each[1]);
        }
    }

    private static void speed() {
        Check.sentence("5: the speed of the valve, 1 to 50, at first 20.");
        Check.due("at first", new MixerStation().setting(5), 20);
        for (int speed : new int[] {1, 20, 33, 50}) {
            MixerStation x = Check.station("M00060s700");
            x.set(5, speed);
            for (int minute = 1; minute <= 4; minute++) {
                x.pass(1);
                Check.due("share behind minute " + minute, x.about(5), Math.min(100, minute * speed));
            }
        }
    }

    // The boiler has 25 degrees, the loop 20, and the share is 50: 2.5 units for each unit of flow.
    private static void flow() {
        Check.sentence("6: the flow, 1 to 20, at first 10.");
        Check.due("at first", new MixerStation().setting(6), 10);
        int[][] due = {{1, 2}, {2, 5}, {3, 7}, {10, 25}, {19, 47}, {20, 50}};
        for (int[] each : due) {
            MixerStation x = Check.station("M20060s300s550s700");
            x.set(6, each[0]);
            x.pass(1);
            Check.due("units with the flow " + each[0], x.moved(0, 1), each[1]);
        }
    }

    private static void pinch() {
        Check.sentence("7: the pinch, 0 to 60, at first 35.");
        Check.due("at first", new MixerStation().setting(7), 35);
        int[][] due = {{0, 50}, {19, 50}, {20, 50}, {21, 20}, {35, 20}, {60, 20}};
        for (int[] each : due) {
            MixerStation x = Check.station("M00060s550");
            x.set(7, each[0]);
            x.pass(1);
            Check.due("share with the pinch " + each[0], x.about(5), each[1]);
        }
    }

    private static void summerLimit() {
        Check.sentence("8: the summer limit, 10 to 30, at first 18.");
        Check.due("at first", new MixerStation().setting(8), 18);
        for (int limit : new int[] {10, 11, 18, 30}) {
            MixerStation x = new MixerStation();
            x.set(8, limit);
            x.outside(limit - 1);
            x.pass(1);
            Check.due("counter below " + limit, x.about(7), 0);
            x.outside(limit);
            x.pass(1);
            Check.due("counter at " + limit, x.about(7), 1);
        }
    }

    private static void seasonBeforeBoiler() {
        Check.sentence("When a minute goes by, this happens, in this order,");
        MixerStation x = Check.station("M00060o+30");
        x.pass(59);
        x.set(0, 200);
        Check.due("winter before the minute", x.about(6), 0);
        Check.due("whyOff()", x.whyOff(), 1);
        x.pass(1);
        Check.due("summer behind the minute", x.about(6), 1);
        Check.due("the boiler is off already in it", x.moved(9, 0), 0);
    }

    private static void boilerBeforeValve() {
        Check.sentence("When a minute goes by, this happens, in this order,");
        MixerStation x = Check.station("M20060s300s550s725");
        x.pass(1);
        Check.due("the boiler reached the pinch of 25 in this minute: share", x.about(5), 50);
        MixerStation y = Check.station("M19960s300s550s725");
        y.pass(1);
        Check.due("the boiler did not reach it: share", y.about(5), 20);
    }

    private static void valveBeforeMixing() {
        Check.sentence("When a minute goes by, this happens, in this order,");
        MixerStation x = Check.station("M20060s300s550s700");
        Check.due("share before", x.about(5), 0);
        x.pass(1);
        Check.due("10 * 50 * 5 / 100", x.moved(0, 1), 25);
    }

    // In the second minute the loop has 1194 units, gets 120 and has 21 degrees then.
    private static void mixingBeforeRooms() {
        Check.sentence("When a minute goes by, this happens, in this order,");
        MixerStation x = Check.station("M20060r32052s301s550s620s700");
        x.pass(1);
        Check.due("heat of the loop", x.place(1, 0), 1194);
        x.pass(1);
        Check.due("to the loop", x.moved(0, 1), 120);
        Check.due("to the room: 6 and 5 * 6 / 4", x.moved(1, 2), 13);
    }

    // 11 units come, so the room loses 9 * (16 - 5) / 8, and has 149 units in the end.
    private static void roomsBeforeLeaks() {
        Check.sentence("When a minute goes by, this happens, in this order,");
        MixerStation x = Check.station("M00060r11699");
        x.pass(1);
        Check.due("from the loop", x.moved(1, 2), 11);
        Check.due("to the outside", x.moved(2, 8), 12);
        Check.due("heat of the room", x.place(2, 0), 149);
        Check.due("cold minutes", x.room(0, 5), 1);
        Check.due("minutes of comfort", x.room(0, 4), 0);
    }

    private static void minutesLast() {
        Check.sentence("8. The number of minutes so far increases by 1.");
        MixerStation x = Check.station("M00060o+30");
        for (int minute = 1; minute <= 60; minute++) {
            x.pass(1);
            Check.due("about(1)", x.about(1), minute);
        }
        Check.due("share in the minute 60", x.about(5), 0);
        x.pass(1);
        Check.due("60 minutes before this one: the bypass", x.about(5), 100);
        x.pass(1);
        Check.due("61 minutes before this one", x.about(5), 0);
    }

    private static void atFirst() {
        Check.sentence("1. The season: it is winter or summer, at first winter.");
        Check.due("a new one", new MixerStation().about(6), 0);
        Check.due("a hot one", Check.station("M06060o+40").about(6), 0);
        Check.sentence("2. The boiler: it is off at first.");
        Check.due("a new one", new MixerStation().about(3), 0);
        Check.due("one without rest", Check.station("M20080s300").about(3), 0);
    }

    private static void noFireInSummer() {
        Check.sentence("it is winter,");
        MixerStation x = Check.station("M00060o+30s300");
        x.pass(60);
        x.set(0, 200);
        Check.due("240 minutes of summer", x.heatFor(240), 0);
        x.outside(5);
        Check.due("59 cool minutes of summer", x.heatFor(59), 0);
        Check.due("winter from the minute 60 on", x.heatFor(60), 200);
    }

    private static void onOrOffForMinutes() {
        Check.sentence("\"The boiler was on (or off) for n minutes\"");
        // On in the minutes 4 to 8 for the minimum run; by then it has 45 degrees.
        MixerStation x = Check.station("M20030s400");
        int[] on = {0, 0, 0, 1, 1, 1, 1, 1, 0, 0};
        int[] minutes = {1, 2, 3, 1, 2, 3, 4, 5, 1, 2};
        for (int k = 0; k < on.length; k++) {
            x.pass(1);
            Check.due("about(3) behind minute " + (k + 1), x.about(3), on[k]);
            Check.due("about(4) behind minute " + (k + 1), x.about(4), minutes[k]);
        }
    }

    private static void position(String text, int due) {
        MixerStation x = new MixerStation();
        Check.type(x, text);
        Check.due("errorPosition() of " + text, x.errorPosition(), due);
    }

    private static void leftToRight() {
        Check.sentence("The text is read from left to right.");
        position("XM0606", 0);
        position("M20160rr", 3);
        position("M06060x9y", 6);
        position("M06060r00000o*", 7);
        position("M06060o-00s999", 9);
        position("M06060r32052M06060", 12);
    }

    private static void digitsWithoutNumber() {
        Check.sentence("(a digit is not allowed if no number that is allowed begins with it and those before it;");
        position("M3", 1);
        position("M201", 3);
        position("M21", 2);
        position("M0602", 4);
        position("M0609", 4);
        position("M06081", 5);
        position("M06080", NONE);
        position("M06060r0", 7);
        position("M06060r30", 8);
        position("M06060r326", 9);
        position("M06060r3250", 10);
        position("M06060o+41", 9);
        position("M06060o-3", 8);
        position("M06060s1", 7);
        position("M06060s9", 7);
        position("M06060s500", 9);
        position("M06060s831", 9);
    }

    private static void theState() {
        Check.sentence("The methods in the section \"actions\" change the state, which consists of everything but the text "
                + "and the save slots.");
        MixerStation x = Check.station("M06060r32052");
        x.pass(5);
        x.save(0);
        String saved = Check.picture(x);
        x.append('!');
        x.set(0, 100);
        x.undo();
        Check.due("undo() leaves the text", x.errorPosition(), 12);
        x.window(0, true);
        x.pass(9);
        x.addRoom(1, 20, 1, 1);
        Check.due("actions leave the text", x.clearText(), 13);
        x.undo();
        Check.due("undo() does not bring the text back", x.clearText(), 0);
        x.restore(0);
        Check.isTrue("actions and undo() leave the save slot", Check.picture(x).equals(saved));
    }

    private static void exceptions() {
        MixerStation x = Check.station("M06060r32052");
        Check.sentence("IndexOutOfBoundsException means that a room, a place or a way does not exist, "
                + "or that a save slot is not 0 or 1.");
        Check.thrown("room(1, 0)", Check.INDEX, () -> x.room(1, 0));
        Check.thrown("place(3, 0)", Check.INDEX, () -> x.place(3, 0));
        Check.thrown("way(1, 0)", Check.INDEX, () -> x.way(1, 0));
        Check.thrown("save(2)", Check.INDEX, () -> x.save(2));
        Check.sentence("IllegalArgumentException means that another argument is out of its range.");
        Check.thrown("room(0, 7)", Check.ARGUMENT, () -> x.room(0, 7));
        Check.thrown("moved(10, 0)", Check.ARGUMENT, () -> x.moved(10, 0));
        Check.thrown("pass(61)", Check.ARGUMENT, () -> x.pass(61));
        Check.sentence("IllegalStateException means what the method says.");
        Check.thrown("undo()", Check.STATE, x::undo);
        Check.thrown("restore(0)", Check.STATE, () -> x.restore(0));
    }

    private static void noResult() {
        Check.sentence("The constants: NONE = -99999: There is no such result.");
        Check.due("NONE", NONE, -99999);
        Check.due("errorPosition()", Check.station("M06060").errorPosition(), -99999);
        Check.due("minutesTo(0)", Check.station("M00060r92599").minutesTo(0), -99999);
        Check.due("bestSlope(1)", new MixerStation().bestSlope(1), -99999);
        Check.due("leastPower(0)", Check.station("M20080r92599").leastPower(0), -99999);
        Check.due("runScript(1, 1001)", new MixerStation().runScript(1, 1001), -99999);
    }
}
