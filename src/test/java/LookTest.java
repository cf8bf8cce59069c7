/** Promises 19 to 25: ahead, minutesTo, whyOff, whyShare, bestSlope, leastPower, heatFor. */
public final class LookTest {
    public static void main(String[] args) {
        refusals();
        ahead();
        minutesTo();
        whyOff();
        whyShare();
        bestSlope();
        leastPower();
        heatFor();
        changeNothing();
        Check.end("LookTest");
    }

    private static void refusals() {
        MixerStation x = Check.station("M06060r32052");
        for (int p : new int[] {-1, 3, 8, 9, Integer.MAX_VALUE}) {
            Check.thrownUnchanged(x, "ahead(" + p + ", 5)", Check.INDEX, () -> x.ahead(p, 5));
            Check.thrownUnchanged(x, "ahead(" + p + ", 241)", Check.INDEX, () -> x.ahead(p, 241));
        }
        for (int i : new int[] {-1, 1, Integer.MIN_VALUE}) {
            Check.thrownUnchanged(x, "minutesTo(" + i + ")", Check.INDEX, () -> x.minutesTo(i));
        }
        for (int minutes : new int[] {-1, 241, Integer.MAX_VALUE, Integer.MIN_VALUE}) {
            Check.thrownUnchanged(x, "ahead(0, " + minutes + ")", Check.ARGUMENT, () -> x.ahead(0, minutes));
            Check.thrownUnchanged(x, "bestSlope(" + minutes + ")", Check.ARGUMENT, () -> x.bestSlope(minutes));
            Check.thrownUnchanged(x, "leastPower(" + minutes + ")", Check.ARGUMENT, () -> x.leastPower(minutes));
            Check.thrownUnchanged(x, "heatFor(" + minutes + ")", Check.ARGUMENT, () -> x.heatFor(minutes));
        }
        Check.thrownUnchanged(x, "bestSlope(0)", Check.ARGUMENT, () -> x.bestSlope(0));
        MixerStation empty = new MixerStation();
        Check.thrown("bestSlope(0) without rooms", Check.ARGUMENT, () -> empty.bestSlope(0));
        Check.thrown("bestSlope(241) without rooms", Check.ARGUMENT, () -> empty.bestSlope(241));
        Check.thrown("minutesTo(0) without rooms", Check.INDEX, () -> empty.minutesTo(0));
    }

    private static MixerStation later(String text, int minutes) {
        MixerStation x = Check.station(text);
        for (int k = 0; k < minutes; k++) {
            x.pass(1);
        }
        return x;
    }

    private static void ahead() {
        String text = "M12060r32052r91499o-05";
        MixerStation x = Check.station(text);
        for (int minutes : new int[] {0, 1, 17, 239, 240}) {
            MixerStation then = later(text, minutes);
            for (int p = 0; p < 4; p++) {
                Check.due("ahead(" + p + ", " + minutes + ")", x.ahead(p, minutes), then.place(p, 1));
            }
        }
    }

    private static void minutesTo() {
        String text = "M20070r32092r12519r91510o-05";
        MixerStation x = Check.station(text);
        MixerStation then = Check.station(text);
        int want = 0;
        while (then.place(2, 1) < 20) {
            then.pass(1);
            want++;
        }
        Check.isTrue("the room gets warm", want > 1 && want < 240);
        Check.due("minutesTo(0)", x.minutesTo(0), want);
        Check.due("minutesTo(2) at once", x.minutesTo(2), 0);
        Check.due("minutesTo(1) of a room that never gets warm", x.minutesTo(1), MixerStation.NONE);
        lastMinute();
    }

    // The loop is kept at some 20 degrees, so a room of 90 a degree gets 1 unit a minute: 270 units are missing.
    private static void lastMinute() {
        MixerStation x = Check.station("M06060r91810s400");
        Check.due("minutesTo(0) of 270 minutes", x.minutesTo(0), MixerStation.NONE);
        x.pass(29);
        Check.due("minutesTo(0) of 241 minutes", x.minutesTo(0), MixerStation.NONE);
        x.pass(1);
        Check.due("minutesTo(0) of 240 minutes", x.minutesTo(0), 240);
        x.pass(1);
        Check.due("minutesTo(0) of 239 minutes", x.minutesTo(0), 239);
    }

    private static void whyOff() {
        MixerStation x = Check.station("M06060");
        Check.due("whyOff() at first", x.whyOff(), 4);
        x.set(0, 0);
        Check.due("whyOff() without power", x.whyOff(), 3);
        x.set(3, 0);
        x.set(0, 60);
        Check.due("whyOff() without rest", x.whyOff(), 0);
        x.pass(30);
        Check.due("whyOff() while on", x.whyOff(), 0);
        MixerStation hot = Check.station("M20030s200s300s400");
        hot.pass(3);
        Check.due("whyOff() at 35 degrees", hot.whyOff(), 2);
        hot.set(0, 0);
        Check.due("whyOff() at 35 degrees without power", hot.whyOff(), 2);
        MixerStation at = Check.station("M20030s200s302s400");
        at.pass(4);
        Check.due("heat of the boiler at 30 degrees", at.place(0, 0), 1200);
        Check.due("whyOff() while on at the setpoint", at.whyOff(), 0);
        at.pass(2);
        at.set(1, 40);
        Check.due("heat of the boiler at 40 degrees", at.place(0, 0), 1400);
        at.set(1, 35);
        Check.due("whyOff() while off at the setpoint", at.whyOff(), 2);
        at.set(1, 36);
        Check.due("whyOff() while resting below the setpoint", at.whyOff(), 4);
        MixerStation hottest = Check.station("M20080s230s300s400");
        hottest.pass(14);
        Check.due("whyOff() at 90 degrees", hottest.whyOff(), 2);
        MixerStation summer = Check.station("M01060o+30");
        summer.pass(58);
        Check.due("whyOff() before summer", summer.whyOff(), 0);
        summer.pass(1);
        Check.due("whyOff() in the first minute of summer", summer.whyOff(), 1);
        summer.set(0, 0);
        Check.due("whyOff() in summer without power", summer.whyOff(), 1);
        MixerStation resting = Check.station("M20030s200s330s400");
        resting.pass(30);
        Check.due("whyOff() behind the rest", resting.whyOff(), 0);
    }

    private static void whyShare() {
        MixerStation x = Check.station("M06060s430s700");
        Check.due("whyShare() with the speed", x.whyShare(), 5);
        x.pass(4);
        Check.due("whyShare() with the share 100 in the next minute", x.whyShare(), 0);
        x.pass(1);
        Check.due("whyShare() while open", x.whyShare(), 0);
        x.set(7, 60);
        Check.due("whyShare() with the pinch", x.whyShare(), 3);
        x.set(4, 0);
        Check.due("whyShare() of a warm loop", x.whyShare(), 2);
        MixerStation y = Check.station("M00060s401s760");
        Check.due("whyShare() with a target of 10 and a pinch", y.whyShare(), 4);
        // 15 * 2 / 10 = 3 degrees are missing, at 10 degrees outside 2.
        y.set(4, 2);
        Check.due("whyShare() with a target of 30 and a pinch", y.whyShare(), 3);
        y.outside(10);
        Check.due("whyShare() with a target of 20 and a pinch", y.whyShare(), 4);
        y.outside(5);
        y.set(7, 0);
        Check.due("whyShare() with a target of 30", y.whyShare(), 4);
        // 9 degrees are missing: 90; with 10 degrees it is 100.
        y.set(4, 6);
        Check.due("whyShare() with a target of 90", y.whyShare(), 4);
        y.set(4, 7);
        Check.due("whyShare() with a target of 100", y.whyShare(), 5);
        y.set(4, 2);
        y.set(7, 20);
        Check.due("whyShare() with as many degrees as the pinch", y.whyShare(), 4);
        pinchBehindTheBoiler();
        summerShare();
    }

    // The boiler is heated in part 2, before the valve looks at it in part 3.
    private static void pinchBehindTheBoiler() {
        MixerStation x = Check.station("M20060s300s721s430");
        Check.due("whyShare() behind part 2", x.whyShare(), 5);
        x.set(0, 39);
        Check.due("whyShare() with 39 units less", x.whyShare(), 3);
    }

    private static void summerShare() {
        MixerStation x = Check.station("M06060o+30");
        x.pass(59);
        Check.due("whyShare() in the first minute of summer", x.whyShare(), 1);
        x.pass(1);
        Check.due("whyShare() before the bypass", x.whyShare(), 0);
        x.pass(1);
        Check.due("whyShare() behind the bypass", x.whyShare(), 1);
    }

    private static int comfort(MixerStation x, int slope, int minutes) {
        x.set(4, slope);
        int sum = 0;
        int times = 1;
        for (int left = minutes; left > 0; left -= 60) {
            sum += x.pass(Math.min(60, left));
            times++;
        }
        for (; times > 0; times--) {
            x.undo();
        }
        return sum;
    }

    private static void bestSlope() {
        Check.due("bestSlope(5) without rooms", new MixerStation().bestSlope(5), MixerStation.NONE);
        String[] texts = {"M12060r32052r91499o-05", "M20080r11099", "M08060r92533r12011o-20s230", "M00030r51555",
            "M20080r92599o+10s550s620s700"};
        MixerStation steep = Check.station(texts[4]);
        Check.due("bestSlope(120) of a slow room", steep.bestSlope(120), 30);
        for (String text : texts) {
            MixerStation x = Check.station(text);
            x.pass(20);
            for (int minutes : new int[] {1, 75, 240}) {
                int best = -1;
                int due = 0;
                for (int slope = 0; slope <= 30; slope++) {
                    int comfort = comfort(x, slope, minutes);
                    if (comfort > best) {
                        best = comfort;
                        due = slope;
                    }
                }
                x.set(4, 12);
                Check.due("bestSlope(" + minutes + ") of " + text, x.bestSlope(minutes), due);
            }
        }
    }

    private static void leastPower() {
        MixerStation none = new MixerStation();
        Check.due("leastPower(0) without rooms", none.leastPower(0), 0);
        MixerStation x = Check.station("M06060r91510s400");
        Check.due("leastPower(0) of a warm room", x.leastPower(0), 0);
        x.setRoom(0, 0, 16);
        Check.due("leastPower(0) of a cold room", x.leastPower(0), MixerStation.NONE);
        // The loop brings the room 1 unit a minute: 90 units are missing.
        Check.due("leastPower(89)", x.leastPower(89), MixerStation.NONE);
        Check.due("leastPower(90)", x.leastPower(90), 0);
        MixerStation most = Check.station("M00080r92595o-10s550s620");
        Check.due("leastPower(30), a minute too few", most.leastPower(30), MixerStation.NONE);
        Check.due("leastPower(31) with all the power", most.leastPower(31), 200);
        Check.due("leastPower(32)", most.leastPower(32), 190);
        byTrying("M20060r32052o-05", 60);
        byTrying("M00080r92595o-10s550s620", 31);
        byTrying("M00080r32052r31952o-05", 120);
        byTrying("M00080r32593o-20", 240);
        atDifferentMinutes();
    }

    private static void byTrying(String text, int minutes) {
        MixerStation x = Check.station(text);
        int due = MixerStation.NONE;
        for (int power = 0; power <= 200 && due == MixerStation.NONE; power += 10) {
            MixerStation y = Check.station(text);
            y.set(0, power);
            boolean all = true;
            for (int i = 0; i < y.about(0); i++) {
                int when = y.minutesTo(i);
                all &= when != MixerStation.NONE && when <= minutes;
            }
            if (all) {
                due = power;
            }
        }
        Check.due("leastPower(" + minutes + ") of " + text, x.leastPower(minutes), due);
    }

    // The first room is warm only now, the second one only later.
    private static void atDifferentMinutes() {
        MixerStation x = Check.station("M00030r11519r91610s400");
        x.window(0, true);
        Check.due("minutesTo(0)", x.minutesTo(0), 0);
        Check.isTrue("the second is warm later", x.minutesTo(1) > 0);
        Check.isTrue("the first is cold then", x.ahead(2, x.minutesTo(1)) < 15);
        Check.due("leastPower at different minutes", x.leastPower(x.minutesTo(1)), 0);
    }

    private static void heatFor() {
        MixerStation x = Check.station("M07060s400");
        Check.due("heatFor(0)", x.heatFor(0), 0);
        Check.due("heatFor(3)", x.heatFor(3), 0);
        Check.due("heatFor(4)", x.heatFor(4), 70);
        Check.due("heatFor(13)", x.heatFor(13), 700);
        x.pass(5);
        Check.due("heatFor(0) later", x.heatFor(0), 0);
        Check.due("heatFor(8) later", x.heatFor(8), 560);
        int before = x.moved(9, 0);
        int due = x.heatFor(240);
        for (int k = 0; k < 4; k++) {
            x.pass(60);
        }
        Check.due("heatFor(240)", x.moved(9, 0) - before, due);
    }

    private static void changeNothing() {
        MixerStation x = Check.station("M12060r32052r91499o-05");
        x.pass(37);
        String before = Check.picture(x);
        x.ahead(2, 240);
        x.minutesTo(1);
        x.whyOff();
        x.whyShare();
        x.bestSlope(240);
        x.leastPower(240);
        x.heatFor(240);
        x.runScript(4, 1060213030004001L);
        x.simulate(99, 60);
        x.save(0);
        x.errorPosition();
        Check.isTrue("looks ahead change nothing", Check.picture(x).equals(before));
        Check.due("and are no actions", x.undo(), 0);
    }
}
