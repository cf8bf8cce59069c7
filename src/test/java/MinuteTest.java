/** A MINUTE, part by part, and the promises that show it: about, place, room, moved, way, pass. */
public final class MinuteTest {
    public static void main(String[] args) {
        firstMinutes();
        minimumRunAndRest();
        tooHot();
        powerNone();
        season();
        seasonCounterStartsAgain();
        bypass();
        valveStepsAndPinch();
        loopShouldHave();
        mixing();
        roomHeating();
        leaks();
        judgements();
        conservation();
        Check.end("MinuteTest");
    }

    private static void firstMinutes() {
        MixerStation x = Check.station("M06060r22044");
        Check.due("first: pass(1)", x.pass(1), 0);
        Check.due("first: minutes", x.about(1), 1);
        Check.due("first: off for", x.about(4), 1);
        // 38 - 20 = 18 degrees are missing, but the boiler has 20 degrees, so the target is 20.
        Check.due("first: share", x.about(5), 20);
        // The room has 15 degrees, the loop 20: 4 * 5 / 4 = 5 in, then 4 * (15 - 5) / 8 = 5 out.
        Check.due("first: moved(1, 2)", x.moved(1, 2), 5);
        Check.due("first: moved(2, 8)", x.moved(2, 8), 5);
        Check.due("first: heat of the room", x.place(2, 0), 300);
        Check.due("first: cold", x.room(0, 5), 1);
        Check.due("first: ways", x.about(11), 3);
        x.pass(2);
        Check.due("first: off for 3", x.about(4), 3);
        Check.due("first: not on", x.about(3), 0);
        x.pass(1);
        Check.due("first: on", x.about(3), 1);
        Check.due("first: on for 1", x.about(4), 1);
        Check.due("first: starts", x.about(9), 1);
        Check.due("first: moved(9, 0)", x.moved(9, 0), 60);
        // In minute 1 the loop has 19 degrees, so the boiler's 20 degrees go there before any fuel came.
        Check.due("first: the fourth way comes from the boiler", x.way(3, 0), 0);
        Check.due("first: the way of the fuel is the fifth", x.way(4, 0), 9);
        Check.due("first: the way of the fuel goes to the boiler", x.way(4, 1), 0);
    }

    private static void minimumRunAndRest() {
        // Without slope the loop needs nothing: all heat stays in the boiler.
        MixerStation x = Check.station("M20030s210s302s400");
        x.pass(2);
        Check.due("run: off for the rest", x.about(3), 0);
        // 5 degrees a minute: 35 degrees after 3 minutes, but it runs for 10.
        x.pass(10);
        Check.due("run: 70 degrees", x.place(0, 1), 70);
        Check.due("run: on for 10", x.about(4), 10);
        Check.due("run: on", x.about(3), 1);
        x.pass(1);
        Check.due("run: off behind the minimum run", x.about(3), 0);
        Check.due("run: off for 1", x.about(4), 1);
        Check.due("run: no heat in the minute of the switch", x.moved(9, 0), 2000);
        // From a setpoint of 80 on the temperature is below it again.
        x.set(1, 80);
        x.set(3, 3);
        x.pass(2);
        Check.due("rest: still off", x.about(3), 0);
        x.pass(1);
        Check.due("rest: on again", x.about(3), 1);
        Check.due("rest: starts", x.about(9), 2);
        setpointPlusFive();
    }

    private static void setpointPlusFive() {
        MixerStation x = Check.station("M04030s200s300s400");
        x.pass(10);
        Check.due("setpoint: 30 degrees", x.place(0, 1), 30);
        Check.due("setpoint: on at the setpoint", x.about(3), 1);
        x.pass(4);
        Check.due("setpoint: 34 degrees", x.place(0, 1), 34);
        x.pass(1);
        Check.due("setpoint: 35 degrees, on until the next minute", x.about(3), 1);
        x.pass(1);
        Check.due("setpoint: off at 35", x.about(3), 0);
        Check.due("setpoint: 35 degrees", x.place(0, 1), 35);
        x.set(1, 35);
        x.pass(5);
        Check.due("setpoint: not on again at the setpoint", x.about(3), 0);
        x.set(1, 36);
        x.pass(1);
        Check.due("setpoint: on again below it", x.about(3), 1);
    }

    private static void tooHot() {
        MixerStation x = Check.station("M20080s230s300s400");
        x.pass(13);
        Check.due("hot: 85 degrees", x.place(0, 1), 85);
        x.pass(1);
        Check.due("hot: 90 degrees", x.place(0, 1), 90);
        Check.due("hot: on", x.about(3), 1);
        x.pass(1);
        Check.due("hot: off though the minimum run lasts", x.about(3), 0);
    }

    private static void powerNone() {
        MixerStation x = Check.station("M00060");
        x.pass(60);
        Check.due("power 0: never on", x.about(9), 0);
        Check.due("power 0: no way of fuel", x.moved(9, 0), 0);
        x.set(0, 1);
        x.pass(1);
        x.set(0, 0);
        x.pass(20);
        Check.due("power 0: it stays on", x.about(3), 1);
        Check.due("power 0: nothing more", x.moved(9, 0), 1);
    }

    private static void season() {
        MixerStation x = Check.station("M06060o+18");
        x.pass(59);
        Check.due("season: counter", x.about(7), 59);
        Check.due("season: winter", x.about(6), 0);
        x.pass(1);
        Check.due("season: summer", x.about(6), 1);
        Check.due("season: counter begins anew", x.about(7), 0);
        x.pass(10);
        Check.due("season: at the limit it stays", x.about(7), 0);
        x.outside(17);
        x.pass(59);
        Check.due("season: below the limit it counts", x.about(7), 59);
        Check.due("season: still summer", x.about(6), 1);
        x.pass(1);
        Check.due("season: winter again", x.about(6), 0);
        boilerStopsInSummer();
    }

    private static void boilerStopsInSummer() {
        MixerStation x = Check.station("M01060o+30s230");
        x.pass(36);
        Check.due("summer: on for 33", x.about(4), 33);
        x.set(2, 30);
        x.pass(23);
        Check.due("summer: on till the season", x.about(3), 1);
        x.pass(1);
        Check.due("summer: off in the first minute of summer", x.about(3), 0);
        MixerStation y = Check.station("M01060o+30s330");
        y.set(2, 30);
        y.pass(59);
        Check.due("summer: on for 29", y.about(4), 29);
        y.pass(1);
        Check.due("summer: the minimum run is kept", y.about(3), 1);
        y.pass(1);
        Check.due("summer: then it is off", y.about(3), 0);
    }

    private static void seasonCounterStartsAgain() {
        MixerStation x = Check.station("M06060o+20");
        x.pass(40);
        x.outside(5);
        x.pass(1);
        Check.due("season: a cold minute makes the counter 0", x.about(7), 0);
        x.outside(20);
        x.pass(59);
        Check.due("season: so it is still winter", x.about(6), 0);
        x.set(8, 30);
        x.pass(1);
        Check.due("season: the limit counts", x.about(7), 0);
    }

    private static void bypass() {
        MixerStation x = Check.station("M06060o+30");
        x.pass(60);
        Check.due("bypass: minute 59 in summer", x.about(5), 0);
        x.pass(1);
        Check.due("bypass: minute 60", x.about(5), 100);
        x.pass(1);
        Check.due("bypass: minute 61", x.about(5), 0);
        x.pass(28);
        Check.due("bypass: minute 89", x.about(5), 0);
        x.pass(1);
        Check.due("bypass: minute 90", x.about(5), 100);
    }

    private static void valveStepsAndPinch() {
        MixerStation x = Check.station("M00060s515s700s430");
        // 30 * 15 / 10 = 45 degrees are missing: the target is 100.
        x.pass(1);
        Check.due("valve: 15", x.about(5), 15);
        x.pass(5);
        Check.due("valve: 90", x.about(5), 90);
        x.pass(1);
        Check.due("valve: 100", x.about(5), 100);
        x.set(7, 20);
        x.pass(1);
        Check.due("valve: 20 degrees are not fewer than the pinch", x.about(5), 100);
        x.set(7, 21);
        x.pass(1);
        Check.due("valve: held back step by step", x.about(5), 85);
        x.pass(10);
        Check.due("valve: at 20", x.about(5), 20);
        x.set(4, 1);
        x.pass(1);
        // 1 * 15 / 10 = 1 degree is missing: 10.
        Check.due("valve: 10", x.about(5), 10);
        x.set(4, 0);
        x.pass(1);
        Check.due("valve: closed", x.about(5), 0);
    }

    private static void loopShouldHave() {
        MixerStation x = new MixerStation();
        should(x, 20, 30, 20);
        should(x, 40, 30, 20);
        should(x, 19, 12, 21);
        should(x, 19, 9, 20);
        should(x, 5, 15, 42);
        should(x, 5, 12, 38);
        should(x, -20, 12, 68);
        should(x, -20, 13, 70);
        should(x, -20, 30, 70);
        should(x, 0, 0, 20);
    }

    private static void should(MixerStation x, int outside, int slope, int want) {
        x.outside(outside);
        x.set(4, slope);
        Check.due("about(8) at " + outside + " with the slope " + slope, x.about(8), want);
    }

    private static void mixing() {
        MixerStation x = Check.station("M20030s210s300s400s700");
        x.pass(10);
        Check.due("mixing: none without a share", x.moved(0, 1), 0);
        Check.due("mixing: 70 degrees", x.place(0, 1), 70);
        x.set(4, 30);
        x.set(5, 33);
        x.set(6, 7);
        x.pass(1);
        // The boiler is switched off at 70; 7 * 33 * 50 / 100 = 115.5.
        Check.due("mixing: rounded down", x.moved(0, 1), 115);
        Check.due("mixing: boiler", x.place(0, 0), 2800 - 115);
        Check.due("mixing: loop", x.place(1, 0), 1315);
    }

    private static void roomHeating() {
        // The loop has 20 degrees, the room 15 of 16: 1 * 5 / 4 = 1.
        MixerStation x = Check.station("M00060r91610r91510r92590");
        x.pass(1);
        Check.due("rooms: rounded down", x.moved(1, 2), 1);
        Check.due("rooms: none if as warm as wanted", x.moved(1, 3), 0);
        // 9 * 5 / 4 = 11; the loop lost 1 to the first room, so it has 19 degrees: 9 * 4 / 4 = 9.
        Check.due("rooms: with the heat as it is then", x.moved(1, 4), 9);
        atLeastOne();
    }

    private static void atLeastOne() {
        MixerStation x = Check.station("M00060r12510");
        x.pass(60);
        // Difference 1 to 3 gives 1 a minute: the room (10 a degree) comes up to the loop.
        Check.due("rooms: at least 1, until the loop is not warmer", x.place(2, 1) >= x.place(1, 1) ? 1 : 0, 1);
        MixerStation y = Check.station("M00060r12510s400s601");
        for (int k = 0; k < 60 && y.place(2, 1) < y.place(1, 1); k++) {
            y.pass(1);
        }
        Check.due("rooms: the room is as warm as the loop", y.place(2, 1), y.place(1, 1));
        int moved = y.moved(1, 2);
        y.pass(1);
        Check.due("rooms: nothing from a loop that is not warmer", y.moved(1, 2), moved);
    }

    private static void leaks() {
        MixerStation x = Check.station("M00060r91013o+14");
        x.pass(1);
        // 3 * 1 / 8 = 0 rounded down, and -1 * 3 / 8 rounded down is -1.
        Check.due("leak: 0 is no way", x.about(11), 1);
        x.outside(16);
        x.pass(1);
        Check.due("leak: -3 / 8 is -1", x.moved(8, 2), 1);
        Check.due("leak: nothing outwards", x.moved(2, 8), 0);
        x.window(0, true);
        x.pass(1);
        Check.due("leak: -9 / 8 is -2", x.moved(8, 2), 3);
        x.outside(-20);
        x.pass(1);
        // 9 * 35 / 8 = 39.
        Check.due("leak: 315 / 8 is 39", x.moved(2, 8), 39);
        x.window(0, false);
        // The room has 1350 + 3 - 39 = 1314, so 14 degrees: 3 * 34 / 8 = 12.
        x.pass(1);
        Check.due("leak: 102 / 8 is 12", x.moved(2, 8), 51);
        belowZero();
        leaksOfTheSecond();
    }

    private static void leaksOfTheSecond() {
        // 8 * (15 - 7) / 8 = 8 out of the second room, none out of the first.
        MixerStation x = Check.station("M00060r91010r51018o+07");
        x.pass(1);
        Check.due("leak: the second room", x.moved(3, 8), 8);
        Check.due("leak: its heat", x.place(3, 0), 742);
        Check.due("leak: the first room", x.place(2, 0), 1350);
        // The second room has 14 degrees now: 8 * (14 - 20) / 8 = -6.
        x.outside(20);
        x.pass(1);
        Check.due("leak: into the second room", x.moved(8, 3), 6);
        Check.due("leak: its heat again", x.place(3, 0), 748);
        Check.due("leak: nothing into the first room", x.moved(8, 2), 0);
    }

    private static void belowZero() {
        MixerStation x = Check.station("M00030r11019o-20s400");
        x.set(6, 1);
        x.window(0, true);
        for (int k = 0; k < 8; k++) {
            x.pass(60);
        }
        Check.isTrue("below zero: the temperature is rounded down",
                x.place(2, 1) == Math.floorDiv(x.place(2, 0), 10) && x.place(2, 0) < 0);
    }

    private static void judgements() {
        // With 15 degrees and no leak: 16 - 1 is comfort, 17 - 1 is cold, 13 + 2 is comfort, 12 + 2 is warm.
        MixerStation x = Check.station("M00060r91610r91710r91310r91210");
        x.set(6, 1);
        Check.due("judging: pass(1)", x.pass(1), 2);
        Check.due("judging: comfort at wanted - 1", x.room(0, 4), 1);
        Check.due("judging: cold below it", x.room(1, 5), 1);
        Check.due("judging: comfort at wanted + 2", x.room(2, 4), 1);
        Check.due("judging: warm above it", x.room(3, 6), 1);
        Check.due("judging: about(12)", x.about(12), 2);
        Check.due("judging: nothing else", x.room(3, 4) + x.room(3, 5) + x.room(1, 4) + x.room(1, 6), 0);
    }

    private static void conservation() {
        MixerStation x = Check.station("M15070r32052r91499r12119o-15");
        for (int k = 0; k < 6; k++) {
            x.pass(37);
            x.window(k % 3, k % 2 == 0);
            int gained = x.moved(9, 0);
            for (int i = 0; i < 3; i++) {
                gained += x.moved(9, 2 + i) + x.moved(8, 2 + i) - x.moved(2 + i, 8);
            }
            Check.due("no heat is made or lost", x.about(10), 2000 + gained);
        }
    }
}
