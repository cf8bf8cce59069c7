/** A MINUTE: a test for each sentence that names a boundary case, part by part. */
public final class EdgeMinuteTest {
    public static void main(String[] args) {
        seasonAtTheLimit();
        seasonAfterSixty();
        hottestBoiler();
        minimumRun();
        minimumRunInSummer();
        setpointAndFive();
        minimumRest();
        leastPowerOfAll();
        belowTheSetpoint();
        fuelInTheMinuteOfTheSwitch();
        bypass();
        target();
        pinch();
        speed();
        speedBehindSummer();
        shareRange();
        mixing();
        mixingFromAColderBoiler();
        heatingOfRooms();
        heatAsItIsThen();
        leaks();
        judging();
        judgingBehindTheLeak();
        minutesOnAndOff();
        Check.end("EdgeMinuteTest");
    }

    private static void counts(String text, boolean summer, int outside, int due) {
        MixerStation x = Check.station(text);
        if (summer) {
            x.outside(40);
            x.pass(60);
        }
        Check.due("about(6) of " + text, x.about(6), summer ? 1 : 0);
        x.outside(outside);
        x.pass(1);
        Check.due("the counter of " + text + " at " + outside, x.about(7), due);
        x.pass(6);
        Check.due("the counter of " + text + " at " + outside + " later", x.about(7), 7 * due);
        x.outside(outside + (summer == due > 0 ? 1 : -1));
        x.pass(1);
        Check.due("the counter beyond the limit", x.about(7), 1 - due);
    }

    private static void seasonAtTheLimit() {
        Check.sentence("If the temperature outside is at least the summer limit in winter, or below it in summer, "
                + "the counter of such minutes increases by 1, otherwise it becomes 0;");
        for (int limit : new int[] {10, 18, 30}) {
            String text = "M06060s8" + limit;
            counts(text, false, limit - 1, 0);
            counts(text, false, limit, 1);
            counts(text, true, limit, 0);
            counts(text, true, limit - 1, 1);
        }
    }

    private static void seasonAfterSixty() {
        Check.sentence("when it is 60, the other season begins, and the counter becomes 0.");
        MixerStation x = Check.station("M06060o+18");
        x.pass(59);
        Check.due("the counter behind 59 minutes", x.about(7), 59);
        Check.due("the season behind 59 minutes", x.about(6), 0);
        x.pass(1);
        Check.due("the counter behind 60 minutes", x.about(7), 0);
        Check.due("the season behind 60 minutes", x.about(6), 1);
        x.outside(17);
        x.pass(58);
        x.outside(18);
        x.pass(1);
        Check.due("a mild minute in summer", x.about(7), 0);
        x.outside(17);
        x.pass(59);
        Check.due("the counter behind 59 cold minutes", x.about(7), 59);
        Check.due("the season behind 59 cold minutes", x.about(6), 1);
        x.pass(1);
        Check.due("the counter behind 60 cold minutes", x.about(7), 0);
        Check.due("the season behind 60 cold minutes", x.about(6), 0);
    }

    // 5 degrees a minute come to the boiler, and nothing goes, as the loop needs nothing.
    private static void hottestBoiler() {
        Check.sentence("If it is on, it is switched off if its temperature is at least 90,");
        MixerStation x = Check.station("M20080s230s300s400");
        x.pass(13);
        x.set(0, 199);
        x.pass(1);
        Check.due("heat of the boiler", x.place(0, 0), 3599);
        x.set(0, 1);
        x.pass(1);
        Check.due("on at 89 degrees", x.about(3), 1);
        Check.due("heat of the boiler", x.place(0, 0), 3600);
        Check.due("whyOff() at 90 degrees", x.whyOff(), 2);
        x.pass(1);
        Check.due("on at 90 degrees", x.about(3), 0);
        Check.due("heat of the boiler", x.place(0, 0), 3600);
    }

    private static void minimumRun() {
        Check.sentence("or if it was on for at least the minimum run");
        for (int run = 3; run <= 30; run++) {
            MixerStation x = Check.station("M20030s300s400");
            x.set(2, run);
            x.pass(3);
            x.set(0, 1);
            if (run > 3) {
                x.pass(run - 3);
            }
            Check.due("on for the minimum run of " + run, x.about(3), 1);
            Check.due("for how long", x.about(4), run);
            x.pass(1);
            Check.due("on behind the minimum run of " + run, x.about(3), 0);
        }
        for (int run = 0; run <= 2; run++) {
            MixerStation x = Check.station("M20080s200s300s400");
            x.pass(3);
            x.set(1, 30);
            x.pass(1);
            Check.due("off at 35 degrees", x.about(3), 0);
            x.set(1, 80);
            x.pass(1);
            Check.due("on again", x.about(3), 1);
            x.set(1, 30);
            x.set(2, run);
            x.pass(1);
            Check.due("on for 1 with the minimum run " + run, x.about(3), run <= 1 ? 0 : 1);
        }
    }

    // The boiler is switched on in the minute 30, so in the minute 59, the first one of summer, it was on for 29.
    private static void minimumRunInSummer() {
        Check.sentence("and besides it is summer, or its temperature is at least the setpoint + 5 "
                + "(the run is asked for in both).");
        for (int run = 28; run <= 30; run++) {
            MixerStation x = Check.station("M01060s330s400o+30");
            x.set(2, run);
            x.pass(59);
            Check.due("on before summer", x.about(3), 1);
            Check.due("on for 29", x.about(4), 29);
            x.pass(1);
            Check.due("summer", x.about(6), 1);
            Check.due("on in summer with the minimum run " + run, x.about(3), run <= 29 ? 0 : 1);
            x.pass(1);
            Check.due("on in the next minute", x.about(3), 0);
        }
    }

    private static void setpointAndFive() {
        Check.sentence("its temperature is at least the setpoint + 5");
        for (int setpoint : new int[] {30, 55, 80}) {
            MixerStation x = Check.station("M200" + setpoint + "s200s300s400");
            x.pass((setpoint - 20) / 5);
            Check.due("temperature of the boiler", x.place(0, 1), setpoint);
            x.set(0, 199);
            x.pass(1);
            Check.due("heat of the boiler", x.place(0, 0), 40 * (setpoint + 5) - 1);
            x.set(0, 1);
            x.pass(1);
            Check.due("on with 1 unit less than " + (setpoint + 5) + " degrees", x.about(3), 1);
            Check.due("temperature of the boiler", x.place(0, 1), setpoint + 5);
            x.pass(1);
            Check.due("on at " + (setpoint + 5) + " degrees", x.about(3), 0);
        }
    }

    private static void minimumRest() {
        Check.sentence("If it is off, it is switched on if it was off for at least the minimum rest,");
        for (int rest : new int[] {0, 1, 2, 29, 30}) {
            MixerStation x = Check.station("M20030s200s400");
            x.set(3, rest);
            if (rest > 0) {
                x.pass(rest);
                Check.due("on in the rest of " + rest, x.about(3), 0);
                Check.due("off for the rest", x.about(4), rest);
            }
            x.pass(1);
            Check.due("on behind the rest of " + rest, x.about(3), 1);
            x.pass(3);
            Check.due("off at 35 degrees", x.about(3), 0);
            x.set(1, 40);
            if (rest > 1) {
                x.pass(rest - 1);
                Check.due("on again in the rest of " + rest, x.about(3), 0);
            }
            x.pass(1);
            Check.due("on again behind the rest of " + rest, x.about(3), 1);
            Check.due("how often", x.about(9), 2);
        }
    }

    private static void leastPowerOfAll() {
        Check.sentence("the power is not 0,");
        MixerStation x = Check.station("M00060s300s400");
        x.pass(10);
        Check.due("on with the power 0", x.about(3), 0);
        Check.due("for how long it is off", x.about(4), 10);
        x.set(0, 1);
        x.pass(1);
        Check.due("on with the power 1", x.about(3), 1);
        Check.due("moved(9, 0)", x.moved(9, 0), 1);
    }

    private static void belowTheSetpoint() {
        Check.sentence("and its temperature is below the setpoint.");
        for (int more : new int[] {0, 39}) {
            MixerStation x = Check.station("M20030s200s300s400");
            x.pass(2);
            x.set(0, 160 + more);
            x.pass(1);
            x.set(0, 40);
            x.pass(1);
            x.set(0, 200);
            x.pass(1);
            Check.due("heat of the boiler that is off", x.place(0, 0), 1400 + more);
            Check.due("on at 35 degrees", x.about(3), 0);
            x.set(1, 35);
            x.pass(1);
            Check.due("on at the setpoint", x.about(3), 0);
            x.set(1, 36);
            x.pass(1);
            Check.due("on below the setpoint", x.about(3), 1);
        }
    }

    private static void fuelInTheMinuteOfTheSwitch() {
        Check.sentence("If it is on then, the power goes from elsewhere to the boiler.");
        MixerStation x = Check.station("M20030s200s301s400");
        x.pass(1);
        Check.due("fuel in the rest", x.moved(9, 0), 0);
        x.pass(1);
        Check.due("fuel in the minute in which it is switched on", x.moved(9, 0), 200);
        x.pass(2);
        Check.due("fuel in three minutes", x.moved(9, 0), 600);
        x.pass(1);
        Check.due("off", x.about(3), 0);
        Check.due("no fuel in the minute in which it is switched off", x.moved(9, 0), 600);
    }

    private static void bypass() {
        Check.sentence("In summer the share becomes 100 if the number of minutes so far is a multiple of 30 "
                + "(the bypass), and otherwise 0.");
        // In the minute 60 summer begins, with the bypass at once.
        MixerStation x = Check.station("M06060");
        x.pass(1);
        x.outside(40);
        x.pass(59);
        Check.due("winter", x.about(6), 0);
        for (int minute = 60; minute <= 151; minute++) {
            x.pass(1);
            Check.due("share in the minute " + minute, x.about(5), minute % 30 == 0 ? 100 : 0);
        }
        Check.due("summer", x.about(6), 1);
        // Here it begins one minute before.
        MixerStation y = Check.station("M06060o+40s430s700");
        y.pass(59);
        y.pass(1);
        Check.due("share in the minute 59", y.about(5), 0);
        y.pass(1);
        Check.due("share in the minute 60", y.about(5), 100);
        y.pass(1);
        Check.due("share in the minute 61", y.about(5), 0);
    }

    private static void target() {
        Check.sentence("In winter the target is 0 if the temperature of the loop is at least the one that it should "
                + "have, and otherwise 10 for each degree that is missing, at most 100;");
        // slope, outside, target; the loop has 20 degrees, and nothing flows
        int[][] rows = {{0, 5, 0}, {9, 19, 0}, {10, 19, 10}, {1, 10, 10}, {2, 10, 20}, {6, 5, 90}, {7, 5, 100},
            {11, 10, 100}, {30, -20, 100}};
        for (int[] row : rows) {
            MixerStation x = Check.station("M00060s550s700s830");
            x.set(4, row[0]);
            x.outside(row[1]);
            x.pass(3);
            Check.due("share with the slope " + row[0] + " at " + row[1], x.about(5), row[2]);
        }
        MixerStation x = Check.station("M06060s430s550s700");
        x.pass(60);
        x.set(4, 0);
        Check.isTrue("the loop is warmer than it should be", x.place(1, 1) > x.about(8));
        x.pass(2);
        Check.due("share of a loop that is too warm", x.about(5), 0);
    }

    private static void pinch() {
        Check.sentence("but if the boiler has fewer degrees than the pinch, the target is at most 20.");
        // pinch, slope, outside, target; the boiler has 20 degrees
        int[][] rows = {{20, 30, 5, 100}, {21, 30, 5, 20}, {60, 30, -20, 20}, {0, 30, 5, 100}, {60, 2, 5, 20},
            {60, 2, 10, 20}, {60, 1, 10, 10}, {60, 0, 10, 0}, {20, 2, 5, 30}, {21, 2, 5, 20}};
        for (int[] row : rows) {
            MixerStation x = Check.station("M00060s550");
            x.set(7, row[0]);
            x.set(4, row[1]);
            x.outside(row[2]);
            x.pass(3);
            Check.due("share with the pinch " + row[0] + ", the slope " + row[1] + ", at " + row[2],
                    x.about(5), row[3]);
        }
        // 39 units are not a degree.
        MixerStation x = Check.station("M03960s300s430s550s721");
        x.pass(1);
        Check.due("heat of the boiler", x.place(0, 0), 839);
        Check.due("share with 20 degrees and the pinch 21", x.about(5), 20);
        MixerStation y = Check.station("M04060s300s430s550s721");
        y.pass(1);
        Check.due("share with 21 degrees and the pinch 21", y.about(5), 50);
    }

    private static void speed() {
        Check.sentence("The share changes by at most the speed towards the target.");
        MixerStation x = Check.station("M00060s430s700");
        int[] speeds = {1, 1, 30, 30, 30, 30, 50};
        int[] shares = {1, 2, 32, 62, 92, 100, 100};
        for (int k = 0; k < speeds.length; k++) {
            x.set(5, speeds[k]);
            x.pass(1);
            Check.due("share upwards with the speed " + speeds[k], x.about(5), shares[k]);
        }
        x.set(4, 2);
        int[] downwards = {50, 1, 18, 2, 50, 1};
        int[] due = {50, 49, 31, 30, 30, 30};
        for (int k = 0; k < downwards.length; k++) {
            x.set(5, downwards[k]);
            x.pass(1);
            Check.due("share downwards with the speed " + downwards[k], x.about(5), due[k]);
        }
        x.set(4, 0);
        x.set(5, 50);
        x.pass(1);
        Check.due("share closed", x.about(5), 0);
    }

    // The minute 120 is the last one of summer, with the bypass; the valve closes step by step then.
    private static void speedBehindSummer() {
        Check.sentence("The share changes by at most the speed towards the target.");
        MixerStation x = Check.station("M06060o+30s400s530");
        x.pass(60);
        x.pass(2);
        x.outside(5);
        x.pass(59);
        Check.due("summer", x.about(6), 1);
        Check.due("share in the minute 120", x.about(5), 100);
        int[] due = {70, 40, 10, 0};
        for (int k = 0; k < due.length; k++) {
            x.pass(1);
            Check.due("winter", x.about(6), 0);
            Check.due("share in the minute " + (121 + k), x.about(5), due[k]);
        }
    }

    private static void shareRange() {
        Check.sentence("it has a share from 0 to 100, at first 0.");
        for (int speed : new int[] {1, 33, 50}) {
            MixerStation x = Check.station("M08060r92599o-05s430");
            x.set(5, speed);
            Check.due("share at first", x.about(5), 0);
            boolean[] met = new boolean[101];
            for (int k = 0; k < 150; k++) {
                if (k == 110) {
                    x.set(4, 0);
                }
                x.pass(1);
                int share = x.about(5);
                Check.isTrue("the share " + share + " is 0 to 100: this", share >= 0 && share <= 100);
                met[Math.max(0, Math.min(100, share))] = true;
            }
            Check.isTrue("with the speed " + speed + " the greatest share was met", met[100] || speed == 1);
            Check.isTrue("with the speed " + speed + " a closed valve was met", met[0] || speed == 1);
        }
    }

    private static void mixing() {
        Check.sentence("if the boiler is warmer than the loop (in whole degrees), flow * share * (difference of both "
                + "temperatures) / 100, rounded down, goes");
        MixerStation x = Check.station("M02060s300s430s550s700");
        x.pass(1);
        Check.due("heat of the boiler", x.place(0, 0), 820);
        Check.due("moved(0, 1) from 20.5 degrees to 20", x.moved(0, 1), 0);
        x.pass(1);
        Check.due("moved(0, 1) from 21 degrees to 20", x.moved(0, 1), 10);
        Check.due("heat of the loop", x.place(1, 0), 1210);
        // 3 * 33 * 5 / 100 = 4.95 and 7 * 14 * 1 / 100 = 0.98.
        MixerStation y = Check.station("M20060s300s430s533s603s700");
        y.pass(1);
        Check.due("moved(0, 1) of 495 / 100", y.moved(0, 1), 4);
        MixerStation z = Check.station("M04060s300s430s514s607s700");
        z.pass(1);
        Check.due("moved(0, 1) of 98 / 100", z.moved(0, 1), 0);
        // 20 * 50 * 5 / 100 = 50.
        MixerStation most = Check.station("M20060s300s430s550s620s700");
        most.pass(1);
        Check.due("moved(0, 1) with the greatest flow", most.moved(0, 1), 50);
    }

    private static void mixingFromAColderBoiler() {
        Check.sentence("if the boiler is warmer than the loop (in whole degrees)");
        MixerStation x = Check.station("M00260s200s300s430s550s620s700");
        x.pass(40);
        Check.due("heat of the boiler, 20 degrees", x.place(0, 0), 820);
        Check.due("heat of the loop, 21 degrees", x.place(1, 0), 1260);
        Check.due("share", x.about(5), 100);
        int moved = x.moved(0, 1);
        x.pass(1);
        Check.due("moved(0, 1) of a boiler that is colder", x.moved(0, 1), moved);
        Check.due("moved(1, 0)", x.moved(1, 0), 0);
        Check.due("heat of the loop", x.place(1, 0), 1260);
    }

    private static void heatingOfRooms() {
        Check.sentence("if it has fewer degrees than wanted, and the loop is warmer than the room, radiators * "
                + "(difference of both temperatures) / 4, rounded down, but at least 1, goes from the loop to the room.");
        // wanted, radiators, due; the loop has 20 degrees and the room 15
        int[][] rows = {{14, 9, 0}, {15, 9, 0}, {16, 9, 11}, {25, 9, 11}, {16, 1, 1}, {16, 2, 2}, {16, 3, 3}, {16, 4, 5}};
        for (int[] row : rows) {
            MixerStation x = Check.station("M00060r9" + row[0] + row[1] + "0");
            x.pass(1);
            Check.due("wanted " + row[0] + ", radiators " + row[1], x.moved(1, 2), row[2]);
        }
        // A room of 9 units a minute becomes as warm as the loop: 9 * 1 / 4 = 2.25, 1 * 1 / 4 and 3 * 1 / 4 are 0.25, 0.75.
        for (int radiators : new int[] {1, 3, 4, 9}) {
            MixerStation x = Check.station("M00060r1259" + "0s601s400");
            int minutes = 0;
            while (x.place(1, 1) - x.place(2, 1) > 1 && minutes < 60) {
                x.pass(1);
                minutes++;
            }
            Check.due("the loop is warmer by", x.place(1, 1) - x.place(2, 1), 1);
            x.setRoom(0, 1, radiators);
            int moved = x.moved(1, 2);
            x.pass(1);
            Check.due("with 1 degree and radiators " + radiators, x.moved(1, 2) - moved, radiators == 9 ? 2 : 1);
        }
        asWarmAsTheLoop();
    }

    private static void asWarmAsTheLoop() {
        MixerStation x = Check.station("M00060r12590s601s400");
        x.pass(60);
        Check.due("the loop is not warmer", x.place(1, 1) - x.place(2, 1), 0);
        Check.isTrue("the room is not as warm as wanted", x.place(2, 1) < 25);
        int moved = x.moved(1, 2);
        x.pass(60);
        Check.due("nothing from a loop that is not warmer", x.moved(1, 2), moved);
        // The room is warmed from outside, so that the loop is colder.
        x.outside(40);
        x.setRoom(0, 2, 9);
        x.pass(1);
        Check.isTrue("the loop is colder", x.place(1, 1) < x.place(2, 1));
        x.pass(1);
        Check.due("nothing from a loop that is colder", x.moved(1, 2), moved);
        Check.due("nothing back", x.moved(2, 1), 0);
    }

    // The loop has 20 degrees as long as it has 1200 units; with 1 unit less it has 19.
    private static void heatAsItIsThen() {
        Check.sentence("5. Each room, ascending: if it has fewer degrees than wanted");
        MixerStation x = Check.station("M00060r91610r92590");
        x.pass(1);
        Check.due("1 * 5 / 4 to the room 0", x.moved(1, 2), 1);
        Check.due("9 * 4 / 4 to the room 1", x.moved(1, 3), 9);
        MixerStation y = Check.station("M00060r92590r91610");
        y.pass(1);
        Check.due("9 * 5 / 4 to the room 0", y.moved(1, 2), 11);
        Check.due("1 * 4 / 4 to the room 1", y.moved(1, 3), 1);
    }

    private static void leaks() {
        Check.sentence("let v be leak * (its temperature - the temperature outside) / 8, rounded down (also below 0), "
                + "with 3 * leak instead of leak if its window is open. If v is positive, v goes from the room to the "
                + "outside; if it is negative, -v goes from the outside to the room.");
        // leak, window, outside, v; the room has 15 degrees
        int[][] rows = {{1, 0, 8, 0}, {1, 0, 7, 1}, {1, 0, 0, 1}, {1, 0, -1, 2}, {1, 0, 14, 0}, {1, 0, 15, 0},
            {1, 0, 16, -1}, {1, 0, 23, -1}, {1, 0, 24, -2}, {8, 0, 14, 1}, {8, 0, 16, -1}, {9, 0, -20, 39},
            {9, 0, 40, -29}, {0, 0, -20, 0}, {0, 0, 40, 0}, {1, 1, 13, 0}, {1, 1, 12, 1}, {1, 1, 15, 0}, {1, 1, 16, -1},
            {1, 1, 17, -1}, {1, 1, 18, -2}, {9, 1, -20, 118}, {9, 1, 40, -85}, {0, 1, -20, 0}, {0, 1, 40, 0}};
        for (int[] row : rows) {
            MixerStation x = Check.station("M00060r91010s400");
            x.setRoom(0, 2, row[0]);
            x.window(0, row[1] == 1);
            x.outside(row[2]);
            x.pass(1);
            String with = " with the leak " + row[0] + ", window " + row[1] + ", outside " + row[2];
            Check.due("moved(2, 8)" + with, x.moved(2, 8), Math.max(0, row[3]));
            Check.due("moved(8, 2)" + with, x.moved(8, 2), Math.max(0, -row[3]));
            Check.due("heat" + with, x.place(2, 0), 1350 - row[3]);
            Check.due("ways" + with, x.about(11), row[3] == 0 ? 1 : 2);
        }
    }

    private static void judging() {
        Check.sentence("the minute is cold for it if it has fewer degrees than wanted - 1, warm if it has more than "
                + "wanted + 2, and otherwise a minute of comfort.");
        // wanted, and what (4: comfort, 5: cold, 6: warm); the room has 15 degrees
        int[][] rows = {{25, 5}, {18, 5}, {17, 5}, {16, 4}, {15, 4}, {14, 4}, {13, 4}, {12, 6}, {11, 6}, {10, 6}};
        for (int[] row : rows) {
            MixerStation x = Check.station("M00060r9" + row[0] + "10");
            Check.due("pass(1) with " + row[0] + " wanted", x.pass(1), row[1] == 4 ? 1 : 0);
            for (int what = 4; what <= 6; what++) {
                Check.due("room(0, " + what + ") with " + row[0] + " wanted", x.room(0, what), row[1] == what ? 1 : 0);
            }
            Check.due("about(12)", x.about(12), row[1] == 4 ? 1 : 0);
        }
        // 1439 units of 90 are 15 degrees, 1440 are 16.
        MixerStation x = Check.station("M00060r91019o+40s400");
        x.pass(3);
        Check.due("heat of the room", x.place(2, 0), 1350 + 3 * 29);
        x.setRoom(0, 0, 13);
        x.setRoom(0, 2, 0);
        x.pass(1);
        Check.due("comfort at 15.97 degrees", x.room(0, 4), 1);
        x.setRoom(0, 2, 1);
        x.pass(1);
        Check.due("heat of the room", x.place(2, 0), 1441);
        Check.due("warm at 16.01 degrees", x.room(0, 6), 4);
    }

    // 1350 + 1 - 9 units are 14 degrees: cold, though the minute began with comfort.
    private static void judgingBehindTheLeak() {
        Check.sentence("always with the heat as it is then");
        MixerStation x = Check.station("M00060r91619o+07");
        Check.due("pass(1)", x.pass(1), 0);
        Check.due("heat of the room", x.place(2, 0), 1342);
        Check.due("room(0, 5)", x.room(0, 5), 1);
    }

    private static void minutesOnAndOff() {
        Check.sentence("means that it was switched n minutes ago (so 1 behind the minute in which it was switched); "
                + "at the beginning, it was off for 0 minutes.");
        MixerStation x = Check.station("M20030s203s302s400");
        int[] on = {0, 0, 1, 1, 1, 0, 0};
        int[] due = {1, 2, 1, 2, 3, 1, 2};
        Check.due("off at the beginning", x.about(3), 0);
        Check.due("off for", x.about(4), 0);
        for (int k = 0; k < on.length; k++) {
            x.pass(1);
            Check.due("on in the minute " + k, x.about(3), on[k]);
            Check.due("on or off for, behind the minute " + k, x.about(4), due[k]);
            Check.due("the number of minutes so far", x.about(1), k + 1);
        }
    }
}
