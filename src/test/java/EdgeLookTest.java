import java.util.function.Supplier;

/** The promises 19 to 25: a test for each sentence that names a boundary case. */
public final class EdgeLookTest {
    private static final int NONE = MixerStation.NONE;
    private static final int[] FAR = {-1, 241, Integer.MIN_VALUE, Integer.MAX_VALUE};

    public static void main(String[] args) {
        ahead();
        minutesTo();
        minutesToTheLast();
        minutesToAtOnce();
        whyOffFirst();
        whyOffInThatMinute();
        whyShareOpen();
        whyShareFirst();
        whyShareTargets();
        bestSlopeRange();
        bestSlopeSmallest();
        leastPowerRange();
        leastPowerSteps();
        leastPowerOfSeveralRooms();
        heatFor();
        Check.end("EdgeLookTest");
    }

    private static MixerStation sixRooms() {
        return Check.station("M12060" + "r32052r91499r11510r51833r22511r92599" + "o-05");
    }

    private static void ahead() {
        Check.sentence("Returns the temperature of this place after so many minutes.");
        for (int minutes : new int[] {0, 1, 60, 239, 240}) {
            MixerStation x = sixRooms();
            x.pass(7);
            MixerStation then = sixRooms();
            then.pass(7);
            for (int left = minutes; left > 0; left -= 60) {
                then.pass(Math.min(60, left));
            }
            for (int p = 0; p <= 7; p++) {
                Check.due("ahead(" + p + ", " + minutes + ")", x.ahead(p, minutes), then.place(p, 1));
            }
            Check.due("about(1)", x.about(1), 7);
        }
        MixerStation x = sixRooms();
        for (int minutes : FAR) {
            for (int p : new int[] {0, 1, 2, 7}) {
                Check.thrown("ahead(" + p + ", " + minutes + ")", Check.ARGUMENT, () -> x.ahead(p, minutes));
            }
        }
        Check.sentence("Throws IndexOutOfBoundsException if there is no such place with heat");
        for (int rooms = 0; rooms <= 6; rooms++) {
            MixerStation y = Check.station("M06060" + "r91519".repeat(rooms));
            Check.due("ahead(last, 0) of " + rooms, y.ahead(1 + rooms, 0), rooms == 0 ? 20 : 15);
            for (int p : new int[] {-1, 2 + rooms, 8, 9, Integer.MIN_VALUE, Integer.MAX_VALUE}) {
                Check.thrown("ahead(" + p + ", 0) of " + rooms, Check.INDEX, () -> y.ahead(p, 0));
                Check.thrown("ahead(" + p + ", 240) of " + rooms, Check.INDEX, () -> y.ahead(p, 240));
                Check.thrown("ahead(" + p + ", -1) of " + rooms, Check.INDEX, () -> y.ahead(p, -1));
                Check.thrown("ahead(" + p + ", 241) of " + rooms, Check.INDEX, () -> y.ahead(p, 241));
            }
        }
    }

    private static void minutesTo() {
        Check.sentence("Throws IndexOutOfBoundsException if there is no such room");
        for (int rooms = 0; rooms <= 6; rooms++) {
            MixerStation x = Check.station("M06060" + "r91519".repeat(rooms));
            if (rooms > 0) {
                Check.due("minutesTo(last) of " + rooms, x.minutesTo(rooms - 1), 0);
            }
            for (int i : new int[] {-1, rooms, 6, Integer.MIN_VALUE, Integer.MAX_VALUE}) {
                Check.thrown("minutesTo(" + i + ") of " + rooms, Check.INDEX, () -> x.minutesTo(i));
            }
        }
    }

    // The loop is kept at some 20 degrees, so a room of 90 a degree gets 1 unit a minute.
    private static void minutesToTheLast() {
        Check.sentence("Returns the smallest number of minutes, 0 to 240, after which the room has at least its wanted "
                + "temperature; NONE if there is none.");
        MixerStation x = Check.station("M06060r91810s400");
        Check.due("270 minutes", x.minutesTo(0), NONE);
        x.pass(28);
        x.pass(1);
        Check.due("241 minutes", x.minutesTo(0), NONE);
        x.pass(1);
        Check.due("240 minutes", x.minutesTo(0), 240);
        x.pass(1);
        Check.due("239 minutes", x.minutesTo(0), 239);
        for (int k = 0; k < 3; k++) {
            x.pass(60);
        }
        x.pass(58);
        Check.due("1 minute", x.minutesTo(0), 1);
        Check.due("temperature before it", x.place(2, 1), 17);
        x.pass(1);
        Check.due("0 minutes", x.minutesTo(0), 0);
        Check.due("temperature then", x.place(2, 1), 18);
        Check.due("a room that never gets warm", Check.station("M00060r92519").minutesTo(0), NONE);
    }

    private static void minutesToAtOnce() {
        Check.sentence("after which the room has at least its wanted temperature");
        for (int wanted = 13; wanted <= 17; wanted++) {
            MixerStation x = Check.station("M00060r1" + wanted + "10s400");
            Check.due("minutesTo(0) with " + wanted + " wanted", x.minutesTo(0), wanted <= 15 ? 0 : 10 * (wanted - 15));
        }
        // It is as warm as wanted at once, and later no more.
        MixerStation x = Check.station("M00060r11519o-20");
        x.window(0, true);
        Check.due("ahead(2, 1)", x.ahead(2, 1), 3);
        Check.due("minutesTo(0)", x.minutesTo(0), 0);
    }

    /** A boiler that is off with 35 degrees, in winter, with a rest to come. */
    private static MixerStation resting() {
        MixerStation x = Check.station("M20030s200s300s400");
        x.pass(4);
        x.set(3, 30);
        return x;
    }

    private static MixerStation summer() {
        MixerStation x = Check.station("M20030s200s300s400o+30");
        x.pass(60);
        return x;
    }

    private static void whyOffFirst() {
        Check.sentence("otherwise the first of these that applies: 1: it is summer in that minute; 2: its temperature is at "
                + "least the setpoint; 3: the power is 0; 4: it was not off for long enough.");
        MixerStation summer = summer();
        summer.set(3, 30);
        summer.outside(40);
        Check.due("summer, warm", summer.whyOff(), 1);
        summer.set(0, 0);
        Check.due("summer, warm, without power", summer.whyOff(), 1);
        summer.set(1, 80);
        Check.due("summer, cold, without power", summer.whyOff(), 1);
        MixerStation x = resting();
        Check.due("off", x.about(3), 0);
        Check.due("temperature", x.place(0, 1), 35);
        Check.due("warm, resting", x.whyOff(), 2);
        x.set(0, 0);
        Check.due("warm, resting, without power", x.whyOff(), 2);
        x.set(1, 35);
        Check.due("at the setpoint, without power", x.whyOff(), 2);
        x.set(1, 36);
        Check.due("below the setpoint, without power, resting", x.whyOff(), 3);
        x.set(3, 0);
        Check.due("below the setpoint, without power", x.whyOff(), 3);
        x.set(0, 1);
        Check.due("below the setpoint, with power", x.whyOff(), 0);
        x.set(3, 30);
        Check.due("below the setpoint, with power, resting", x.whyOff(), 4);
        x.set(3, 2);
        Check.due("off for 1 with a rest of 2", x.whyOff(), 4);
        x.set(3, 1);
        Check.due("off for 1 with a rest of 1", x.whyOff(), 0);
    }

    private static void whyOffInThatMinute() {
        Check.sentence("Returns 0 if it is on in the next minute (behind part 2);");
        MixerStation x = Check.station("M20030s200s300s400");
        Check.due("switched on in the next minute", x.whyOff(), 0);
        x.pass(2);
        Check.due("on at the setpoint", x.whyOff(), 0);
        x.pass(1);
        Check.due("on with 35 degrees", x.about(3), 1);
        Check.due("switched off at 35 degrees in the next minute", x.whyOff(), 2);
        x.set(2, 4);
        Check.due("on for 3 with a minimum run of 4", x.whyOff(), 0);
        x.set(2, 3);
        Check.due("on for 3 with a minimum run of 3", x.whyOff(), 2);
        Check.sentence("1: it is summer in that minute;");
        MixerStation y = Check.station("M00160s200s300s400o+30");
        y.pass(58);
        Check.due("the 59th mild minute", y.whyOff(), 0);
        y.pass(1);
        Check.due("the 60th mild minute", y.whyOff(), 1);
        y.set(2, 30);
        Check.due("on in summer, as it was on for 59", y.whyOff(), 1);
        y.pass(1);
        y.outside(5);
        y.pass(58);
        Check.due("the 59th cold minute", y.whyOff(), 1);
        y.pass(1);
        Check.due("the 60th cold minute", y.whyOff(), 0);
    }

    private static void whyShareOpen() {
        Check.sentence("Returns 0 if the share is 100 in the next minute;");
        MixerStation x = Check.station("M00060s430s550s700");
        Check.due("share 50", x.whyShare(), 5);
        x.pass(1);
        Check.due("from 50 to 100", x.whyShare(), 0);
        x.set(5, 49);
        Check.due("from 50 to 99", x.whyShare(), 5);
        x.set(5, 50);
        x.pass(1);
        Check.due("from 100 to 100", x.whyShare(), 0);
        x.set(5, 1);
        x.set(4, 6);
        Check.due("from 100 to 99", x.whyShare(), 4);
        MixerStation y = Check.station("M06060o+30");
        y.pass(59);
        Check.due("in the minute 59, the first one of summer", y.whyShare(), 1);
        y.pass(1);
        Check.due("in the minute 60, the bypass", y.whyShare(), 0);
        y.pass(1);
        Check.due("in the minute 61", y.whyShare(), 1);
        y.pass(28);
        Check.due("in the minute 89", y.whyShare(), 1);
        y.pass(1);
        Check.due("in the minute 90, the bypass", y.whyShare(), 0);
    }

    private static void whyShareFirst() {
        Check.sentence("otherwise the first of these that applies: 1: it is summer in that minute; 2: the loop has the "
                + "temperature that it should have, or more; 3: the boiler has fewer degrees than the pinch, and the target "
                + "would be more than 20 without that; 4: the target is less than 100; 5: the speed (all this as in part 3 "
                + "of that minute).");
        MixerStation x = Check.station("M00060o+30s430s760s501");
        x.pass(58);
        Check.due("winter, the loop as it should be", x.whyShare(), 2);
        x.pass(1);
        Check.due("summer, the loop as it should be", x.whyShare(), 1);
        x.pass(2);
        x.outside(5);
        Check.due("summer, the loop colder, the pinch", x.whyShare(), 1);
        x.pass(58);
        Check.due("the 59th cold minute", x.whyShare(), 1);
        x.pass(1);
        Check.due("winter again, the pinch", x.whyShare(), 3);
        x.set(4, 0);
        Check.due("as it should be, the pinch", x.whyShare(), 2);
        x.set(4, 30);
        x.set(7, 20);
        Check.due("not fewer degrees than the pinch", x.whyShare(), 5);
        x.set(7, 21);
        Check.due("a degree fewer than the pinch", x.whyShare(), 3);
        // Fuel comes in part 2, so the boiler has 21 degrees in part 3.
        x.set(0, 40);
        x.set(3, 0);
        Check.due("as many degrees as the pinch behind part 2", x.whyShare(), 5);
        x.set(0, 39);
        Check.due("1 unit less", x.whyShare(), 3);
    }

    private static void whyShareTargets() {
        Check.sentence("3: the boiler has fewer degrees than the pinch, and the target would be more than 20 without that; "
                + "4: the target is less than 100; 5: the speed");
        // slope, outside, pinch, due; the loop and the boiler have 20 degrees
        int[][] rows = {{0, 5, 60, 2}, {9, 19, 60, 2}, {10, 19, 60, 4}, {1, 10, 60, 4}, {2, 10, 60, 4}, {2, 5, 60, 3},
            {6, 5, 60, 3}, {7, 5, 60, 3}, {2, 5, 20, 4}, {6, 5, 20, 4}, {7, 5, 20, 5}, {8, 5, 20, 5}, {30, -20, 20, 5},
            {30, -20, 21, 3}, {0, -20, 0, 2}, {30, 20, 0, 2}};
        for (int[] row : rows) {
            MixerStation x = Check.station("M00060s830");
            x.set(4, row[0]);
            x.outside(row[1]);
            x.set(7, row[2]);
            Check.due("whyShare() with the slope " + row[0] + " at " + row[1] + ", the pinch " + row[2],
                    x.whyShare(), row[3]);
        }
        // A loop that is warmer than it should be.
        MixerStation x = Check.station("M06060s430s550s700");
        x.pass(60);
        x.set(4, 0);
        Check.isTrue("the loop is warmer", x.place(1, 1) > x.about(8));
        Check.due("whyShare() of a loop that is too warm", x.whyShare(), 2);
    }

    private static int comfort(Supplier<MixerStation> make, int slope, int minutes) {
        MixerStation x = make.get();
        x.set(4, slope);
        int sum = 0;
        for (int left = minutes; left > 0; left -= 60) {
            sum += x.pass(Math.min(60, left));
        }
        return sum;
    }

    private static void bestSlopeRange() {
        Check.sentence("in so many minutes, among several the smallest; NONE without rooms.");
        MixerStation none = new MixerStation();
        Check.due("bestSlope(1) without rooms", none.bestSlope(1), NONE);
        Check.due("bestSlope(240) without rooms", none.bestSlope(240), NONE);
        MixerStation six = sixRooms();
        for (int minutes : new int[] {0, -1, 241, Integer.MIN_VALUE, Integer.MAX_VALUE}) {
            Check.thrown("bestSlope(" + minutes + ") without rooms", Check.ARGUMENT, () -> none.bestSlope(minutes));
            Check.thrown("bestSlope(" + minutes + ") of six", Check.ARGUMENT, () -> six.bestSlope(minutes));
        }
        for (int minutes : new int[] {1, 239, 240}) {
            int due = 0;
            for (int slope = 1; slope <= 30; slope++) {
                if (comfort(EdgeLookTest::sixRooms, slope, minutes) > comfort(EdgeLookTest::sixRooms, due, minutes)) {
                    due = slope;
                }
            }
            Check.due("bestSlope(" + minutes + ") of six rooms", six.bestSlope(minutes), due);
        }
        Check.due("setting(4) behind it", six.setting(4), 12);
        // The least and the greatest slope.
        MixerStation warm = Check.station("M06060r91510s430");
        Check.due("bestSlope(240) of a room that stays warm", warm.bestSlope(240), 0);
        MixerStation slow = Check.station("M20080r92599o+10s550s620s700");
        Check.due("bestSlope(120) of a slow room", slow.bestSlope(120), 30);
    }

    private static void bestSlopeSmallest() {
        Check.sentence("among several the smallest");
        Supplier<MixerStation> make = () -> Check.station("M12060r32052r91499o-05");
        Check.due("comfort with the slope 6", comfort(make, 6, 60), 99);
        Check.due("comfort with the slope 7", comfort(make, 7, 60), 100);
        Check.due("comfort with the slope 30", comfort(make, 30, 60), 100);
        Check.due("bestSlope(60)", make.get().bestSlope(60), 7);
        Supplier<MixerStation> cold = () -> Check.station("M06060r91619");
        Check.due("comfort with the slope 0", comfort(cold, 0, 240), comfort(cold, 30, 240));
        Check.due("bestSlope(240) if all are the same", cold.get().bestSlope(240), 0);
        // Comfort before now does not count: here the room had an hour of it.
        MixerStation x = Check.station("M00060r91510s430");
        x.pass(60);
        x.setRoom(0, 0, 25);
        Check.due("bestSlope(1) without any comfort", x.bestSlope(1), 0);
    }

    private static void leastPowerRange() {
        Check.sentence("there is, for each room, a number of minutes from 0 to this one after which the room has at least "
                + "its wanted temperature; NONE if there is none.");
        MixerStation none = new MixerStation();
        MixerStation six = sixRooms();
        for (int minutes : FAR) {
            Check.thrown("leastPower(" + minutes + ") without rooms", Check.ARGUMENT, () -> none.leastPower(minutes));
            Check.thrown("leastPower(" + minutes + ") of six", Check.ARGUMENT, () -> six.leastPower(minutes));
        }
        Check.due("leastPower(0) without rooms", none.leastPower(0), 0);
        Check.due("leastPower(240) without rooms", none.leastPower(240), 0);
        six.setRoom(5, 1, 1);
        Check.due("leastPower(240) of six, one of which stays too cold", six.leastPower(240), NONE);
        // The room gets 1 unit a minute from the loop alone.
        MixerStation x = Check.station("M20080r91510s400");
        Check.due("leastPower(0) of a room with its wanted temperature", x.leastPower(0), 0);
        x.setRoom(0, 0, 16);
        Check.due("leastPower(0) of a room with a degree less", x.leastPower(0), NONE);
        Check.due("leastPower(89)", x.leastPower(89), NONE);
        Check.due("leastPower(90)", x.leastPower(90), 0);
        Check.due("setting(0) behind it", x.setting(0), 200);
        MixerStation longest = Check.station("M06060r91810s400");
        longest.pass(28);
        longest.pass(1);
        Check.due("leastPower(240) of 241 minutes", longest.leastPower(240), NONE);
        longest.pass(1);
        Check.isTrue("leastPower(240) of 240 minutes", longest.leastPower(240) != NONE);
        Check.due("leastPower(239) of 240 minutes", longest.leastPower(239), NONE);
    }

    private static void leastPowerSteps() {
        Check.sentence("Returns the smallest power of 0, 10, 20 and so on up to 200");
        MixerStation x = Check.station("M00080r92595o-10s550s620");
        int before = NONE;
        boolean[] met = new boolean[21];
        for (int minutes = 30; minutes <= 160; minutes++) {
            int power = x.leastPower(minutes);
            if (power == NONE) {
                Check.due("none is the answer only before the others", before, NONE);
                continue;
            }
            Check.isTrue("leastPower(" + minutes + ") is a step from 0 to 200, " + power,
                    power >= 0 && power <= 200 && power % 10 == 0);
            Check.isTrue("more minutes need no more power", before == NONE || power <= before);
            met[power / 10] = true;
            Check.isTrue("the power is enough", warmWith(power, minutes));
            Check.isTrue("10 less are not", power == 0 || !warmWith(power - 10, minutes));
            before = power;
        }
        Check.isTrue("200 and 190 were due", met[20] && met[19]);
        Check.due("leastPower(30)", x.leastPower(30), NONE);
        Check.due("leastPower(31)", x.leastPower(31), 200);
    }

    private static boolean warmWith(int power, int minutes) {
        MixerStation x = Check.station("M00080r92595o-10s550s620");
        x.set(0, power);
        int due = x.minutesTo(0);
        return due != NONE && due <= minutes;
    }

    private static void leastPowerOfSeveralRooms() {
        Check.sentence("for each room, a number of minutes from 0 to this one");
        Check.due("six warm rooms", Check.station("M06060" + "r91510".repeat(6)).leastPower(0), 0);
        for (int cold = 0; cold < 6; cold++) {
            MixerStation x = Check.station("M06060" + "r91510".repeat(6) + "s400");
            x.setRoom(cold, 0, 16);
            Check.due("all are warm but the room " + cold, x.leastPower(0), NONE);
            Check.due("all are warm but the room " + cold + ", later", x.leastPower(90), 0);
        }
        // The first room is as warm as wanted only now, the second one only from the minute 90 on.
        MixerStation x = Check.station("M00030r11519r91610s400");
        x.window(0, true);
        Check.due("minutesTo(0)", x.minutesTo(0), 0);
        Check.due("minutesTo(1)", x.minutesTo(1), 90);
        Check.isTrue("ahead(2, 90)", x.ahead(2, 90) < 15);
        Check.due("leastPower(89)", x.leastPower(89), NONE);
        Check.due("leastPower(90)", x.leastPower(90), 0);
    }

    private static void heatFor() {
        Check.sentence("Returns the units that go from elsewhere to the boiler in so many minutes.");
        MixerStation x = Check.station("M07060s400");
        for (int minutes : FAR) {
            Check.thrown("heatFor(" + minutes + ")", Check.ARGUMENT, () -> x.heatFor(minutes));
        }
        Check.due("heatFor(0)", x.heatFor(0), 0);
        Check.due("heatFor(3), the rest", x.heatFor(3), 0);
        Check.due("heatFor(4)", x.heatFor(4), 70);
        MixerStation y = sixRooms();
        y.pass(60);
        Check.due("heatFor(0) later", y.heatFor(0), 0);
        int before = y.moved(9, 0);
        int last = y.heatFor(240);
        int first = y.heatFor(239);
        for (int k = 0; k < 3; k++) {
            y.pass(60);
        }
        y.pass(59);
        Check.due("heatFor(239)", first, y.moved(9, 0) - before);
        y.pass(1);
        Check.due("heatFor(240)", last, y.moved(9, 0) - before);
        Check.isTrue("the rooms brought heat that is not the boiler's", y.moved(9, 2) > 0);
        Check.due("heatFor(240) without power", Check.station("M00060").heatFor(240), 0);
    }
}
