/** The promises 1 to 29: a test for each sentence that names no boundary case, with answers reckoned by hand. */
public final class PlainPromisesTest {
    private static final int NONE = MixerStation.NONE;

    public static void main(String[] args) {
        newObject();
        append();
        clearText();
        errorPosition();
        load();
        about();
        aboutSummer();
        setting();
        place();
        room();
        moved();
        way();
        addRoom();
        setRoom();
        window();
        set();
        outside();
        pass();
        undo();
        ahead();
        minutesTo();
        whyOff();
        whyShare();
        bestSlope();
        leastPower();
        heatFor();
        runScript();
        scriptDigits();
        simulate();
        save();
        restore();
        Check.end("PlainPromisesTest");
    }

    /** Behind 4 minutes, told in PlainTermsTest: the boiler 854, the loop 1185, the room 463 units. */
    private static MixerStation fourMinutes() {
        MixerStation x = Check.station("M06060r32052");
        x.pass(4);
        return x;
    }

    /** A room that needs and loses nothing: each minute is one of comfort. */
    private static MixerStation still() {
        return Check.station("M00060r91510s400");
    }

    private static void newObject() {
        Check.sentence("Creates a station without rooms.");
        MixerStation x = new MixerStation();
        int[] about = {0, 0, 5, 0, 0, 0, 0, 0, 38, 0, 2000, 0, 0};
        for (int what = 0; what < about.length; what++) {
            Check.due("about(" + what + ")", x.about(what), about[what]);
        }
        Check.thrown("room(0, 0)", Check.INDEX, () -> x.room(0, 0));
        Check.thrown("place(2, 0)", Check.INDEX, () -> x.place(2, 0));
        Check.thrown("undo()", Check.STATE, x::undo);
        Check.thrown("restore(0)", Check.STATE, () -> x.restore(0));
        Check.thrown("restore(1)", Check.STATE, () -> x.restore(1));
        Check.due("clearText()", x.clearText(), 0);
    }

    private static void append() {
        Check.sentence("Appends a character to the text buffer.");
        MixerStation x = new MixerStation();
        String text = "M06060r32052";
        Check.sentence("Returns the new length of the text.");
        for (int k = 0; k < text.length(); k++) {
            Check.due("append(" + text.charAt(k) + ")", x.append(text.charAt(k)), k + 1);
        }
        Check.due("errorPosition()", x.errorPosition(), NONE);
        Check.due("append(0)", x.append(0), 13);
        Check.due("errorPosition()", x.errorPosition(), 12);
    }

    private static void clearText() {
        Check.sentence("Empties the text buffer.");
        MixerStation x = new MixerStation();
        Check.type(x, "M0606");
        Check.due("clearText()", x.clearText(), 5);
        Check.due("clearText() again", x.clearText(), 0);
        Check.due("errorPosition()", x.errorPosition(), 0);
        Check.due("append(M)", x.append('M'), 1);
        Check.due("errorPosition() of M", x.errorPosition(), 1);
    }

    private static void errorPosition() {
        Check.sentence("Checks the text.");
        Check.sentence("Returns the error position of the text; NONE if it is a station.");
        MixerStation x = fourMinutes();
        String before = Check.picture(x);
        Check.due("of a station", x.errorPosition(), NONE);
        x.append('r');
        Check.due("of a text that ends too soon", x.errorPosition(), 13);
        x.append('x');
        Check.due("of a text with an x", x.errorPosition(), 13);
        Check.isTrue("the state is as before", Check.picture(x).equals(before));
    }

    private static void load() {
        Check.sentence("Returns the number of rooms.");
        MixerStation x = fourMinutes();
        Check.type(x, "M12345s710r11010o-07r92599s599");
        Check.thrown("load() of 99 for the speed", Check.STATE, x::load);
        Check.type(x, "M12345s710r11010o-07r92599s550");
        Check.due("load()", x.load(), 2);
        int[] about = {2, 0, -7, 0, 0, 0, 0, 0, 52, 0, 3500, 2, 0};
        for (int what = 0; what < about.length; what++) {
            Check.due("about(" + what + ")", x.about(what), about[what]);
        }
        int[] settings = {123, 45, 5, 3, 12, 50, 10, 10, 18};
        for (int what = 0; what < settings.length; what++) {
            Check.due("setting(" + what + ")", x.setting(what), settings[what]);
        }
        int[][] rooms = {{10, 1, 0}, {25, 9, 9}};
        for (int i = 0; i < rooms.length; i++) {
            for (int what = 0; what < 7; what++) {
                Check.due("room(" + i + ", " + what + ")", x.room(i, what), what < 3 ? rooms[i][what] : 0);
            }
        }
        Check.due("load() again", x.load(), 2);
        Check.due("load() without rooms", Check.station("M00030").load(), 0);
    }

    private static void about() {
        Check.sentence("what: 0: the number of rooms; 1: of minutes so far; 2: the temperature outside; 3: 1 if the boiler is "
                + "on, 0 if it is off; 4: for how many minutes it is so; 5: the share; 6: 0 in winter, 1 in summer; 7: the "
                + "counter of the season; 8: the temperature that the loop should have; 9: how often the boiler was switched "
                + "on so far; 10: the sum of the heat of the boiler, the loop and all rooms; 11: the number of ways in the "
                + "ledger; 12: the minutes of comfort of all rooms so far");
        MixerStation x = fourMinutes();
        int[] due = {1, 4, 5, 1, 1, 20, 0, 0, 38, 1, 854 + 1185 + 463, 5, 0};
        for (int what = 0; what < due.length; what++) {
            Check.due("about(" + what + ")", x.about(what), due[what]);
        }
    }

    private static void aboutSummer() {
        Check.sentence("6: 0 in winter, 1 in summer; 7: the counter of the season;");
        MixerStation x = Check.station("M00060r91510r91510s400o+18");
        x.pass(59);
        Check.due("about(6) behind 59 minutes", x.about(6), 0);
        Check.due("about(7) behind 59 minutes", x.about(7), 59);
        x.pass(1);
        x.outside(-3);
        x.pass(7);
        int[] due = {2, 67, -3, 0, 67, 0, 1, 7, 20, 0, 2000 + 2700, 2, 134};
        for (int what = 0; what < due.length; what++) {
            Check.due("about(" + what + ")", x.about(what), due[what]);
        }
    }

    private static void setting() {
        Check.sentence("Returns a setting.");
        MixerStation x = Check.station("M12345s201s302s403s504s605s706s811");
        int[] due = {123, 45, 1, 2, 3, 4, 5, 6, 11};
        for (int what = 0; what < due.length; what++) {
            Check.due("setting(" + what + ")", x.setting(what), due[what]);
        }
    }

    private static void place() {
        Check.sentence("p: 0: the boiler; 1: the loop; 2 + i: the room i");
        Check.sentence("what: 0: its heat; 1: its temperature; 2: its capacity");
        MixerStation x = fourMinutes();
        int[][] due = {{854, 21, 40}, {1185, 19, 60}, {463, 15, 30}};
        for (int p = 0; p < due.length; p++) {
            for (int what = 0; what < 3; what++) {
                Check.due("place(" + p + ", " + what + ")", x.place(p, what), due[p][what]);
            }
        }
    }

    private static void room() {
        Check.sentence("what: 0: its wanted temperature; 1: its radiators; 2: its leak; 3: 1 if its window is open, 0 if it is "
                + "closed; 4: its minutes of comfort so far; 5: its cold minutes; 6: its warm minutes");
        MixerStation x = Check.station("M00060r91234r91310r91670r91782s400o+15");
        x.window(0, true);
        x.window(3, true);
        x.window(3, false);
        x.pass(6);
        // 15 degrees all the time; the third and the fourth room get 8 * 5 / 4 and 7 * 5 / 4 or less a minute.
        int[][] due = {{12, 3, 4, 1, 0, 0, 6}, {13, 1, 0, 0, 6, 0, 0}, {16, 7, 0, 0, 6, 0, 0}, {17, 8, 2, 0, 0, 6, 0}};
        for (int i = 0; i < due.length; i++) {
            for (int what = 0; what < 7; what++) {
                Check.due("room(" + i + ", " + what + ")", x.room(i, what), due[i][what]);
            }
        }
    }

    private static void moved() {
        Check.sentence("Returns how much heat went from one place to another one so far.");
        MixerStation x = fourMinutes();
        int[][] due = {{9, 2, 450}, {1, 2, 21}, {2, 8, 8}, {0, 1, 6}, {9, 0, 60}};
        int all = 0;
        for (int[] way : due) {
            Check.due("moved(" + way[0] + ", " + way[1] + ")", x.moved(way[0], way[1]), way[2]);
            Check.due("the way back", x.moved(way[1], way[0]), 0);
            all += way[2];
        }
        for (int from = 0; from <= 9; from++) {
            for (int to = 0; to <= 9; to++) {
                all -= x.moved(from, to);
            }
        }
        Check.due("all other ways", all, 0);
    }

    private static void way() {
        Check.sentence("what: 0: from where it goes; 1: to where; 2: the sum of all amounts");
        MixerStation x = fourMinutes();
        int[][] due = {{9, 2, 450}, {1, 2, 21}, {2, 8, 8}, {0, 1, 6}, {9, 0, 60}};
        for (int k = 0; k < due.length; k++) {
            for (int what = 0; what < 3; what++) {
                Check.due("way(" + k + ", " + what + ")", x.way(k, what), due[k][what]);
            }
        }
    }

    private static void addRoom() {
        Check.sentence("Returns its number.");
        MixerStation x = new MixerStation();
        for (int i = 0; i < 6; i++) {
            Check.due("addRoom()", x.addRoom(1 + i, 20 - i, 9 - i, 2 + i), i);
            Check.due("about(0)", x.about(0), i + 1);
        }
        for (int i = 0; i < 6; i++) {
            Check.due("capacity", x.place(2 + i, 2), 10 + 10 * i);
            Check.due("wanted", x.room(i, 0), 20 - i);
            Check.due("radiators", x.room(i, 1), 9 - i);
            Check.due("leak", x.room(i, 2), 2 + i);
            Check.due("from elsewhere", x.moved(9, 2 + i), 150 + 150 * i);
        }
    }

    private static void setRoom() {
        Check.sentence("Changes a number of a room.");
        Check.sentence("Returns the previous number.");
        MixerStation x = Check.station("M06060r32052r31736");
        int[] before = {17, 3, 6};
        int[] then = {24, 8, 1};
        for (int what = 0; what < 3; what++) {
            Check.due("setRoom(1, " + what + ", " + then[what] + ")", x.setRoom(1, what, then[what]), before[what]);
            Check.due("the same again", x.setRoom(1, what, then[what]), then[what]);
            Check.due("room(1, " + what + ")", x.room(1, what), then[what]);
        }
        Check.due("the other room", x.room(0, 0) * 100 + x.room(0, 1) * 10 + x.room(0, 2), 2052);
    }

    private static void window() {
        Check.sentence("Opens or closes the window of a room.");
        Check.sentence("open: whether it is open then");
        MixerStation x = Check.station("M06060r32052r32052r32052");
        Check.due("window(1, true)", x.window(1, true), 1);
        Check.due("room(1, 3)", x.room(1, 3), 1);
        Check.due("room(0, 3)", x.room(0, 3), 0);
        Check.due("window(2, true)", x.window(2, true), 2);
        Check.due("window(1, false)", x.window(1, false), 1);
        Check.due("room(1, 3)", x.room(1, 3), 0);
        Check.due("room(2, 3)", x.room(2, 3), 1);
    }

    private static void set() {
        Check.sentence("Changes a setting.");
        Check.sentence("Returns the previous setting.");
        MixerStation x = new MixerStation();
        int[] before = {60, 60, 5, 3, 12, 20, 10, 35, 18};
        for (int what = 0; what < before.length; what++) {
            Check.due("set(" + what + ", 30)", x.set(what, what == 6 ? 19 : 30), before[what]);
        }
        for (int what = 0; what < before.length; what++) {
            Check.due("setting(" + what + ")", x.setting(what), what == 6 ? 19 : 30);
        }
    }

    private static void outside() {
        Check.sentence("Changes the temperature outside.");
        Check.sentence("degrees: -20 to 40");
        MixerStation x = new MixerStation();
        int[] degrees = {-20, 40, 0, 7, -1};
        int previous = 5;
        for (int each : degrees) {
            Check.due("outside(" + each + ")", x.outside(each), previous);
            Check.due("about(2)", x.about(2), each);
            previous = each;
        }
    }

    private static void pass() {
        Check.sentence("Lets minutes go by.");
        MixerStation x = still();
        Check.due("pass(17)", x.pass(17), 17);
        Check.due("about(1)", x.about(1), 17);
        x.addRoom(9, 15, 1, 0);
        Check.due("pass(5) with two rooms", x.pass(5), 10);
        Check.due("about(12)", x.about(12), 27);
        Check.due("pass(60) of a cold room", Check.station("M00060r92519").pass(60), 0);
    }

    private static void undo() {
        Check.sentence("Returns how many states are still remembered.");
        MixerStation x = new MixerStation();
        for (int k = 0; k < 5; k++) {
            x.outside(k);
        }
        for (int k = 4; k >= 0; k--) {
            Check.due("undo()", x.undo(), k);
            Check.due("about(2)", x.about(2), k == 0 ? 5 : k - 1);
        }
    }

    private static void ahead() {
        Check.sentence("Tells a temperature after some minutes.");
        MixerStation x = Check.station("M20060r11019s200s300s400o+10");
        // The boiler gets 5 degrees a minute up to 65; the room of 10 units a degree loses 9 * (its degrees - 10) / 8.
        int[] room = {15, 14, 14, 13, 13, 13, 12, 12, 12, 12, 12, 11};
        for (int minutes = 0; minutes < room.length; minutes++) {
            Check.due("ahead(0, " + minutes + ")", x.ahead(0, minutes), Math.min(65, 20 + 5 * minutes));
            Check.due("ahead(1, " + minutes + ")", x.ahead(1, minutes), 20);
            Check.due("ahead(2, " + minutes + ")", x.ahead(2, minutes), room[minutes]);
        }
        Check.due("about(1)", x.about(1), 0);
    }

    private static void minutesTo() {
        Check.sentence("Tells when a room is as warm as wanted.");
        MixerStation x = Check.station("M00060r11610r21610r31510s400");
        Check.due("10 units at 1 a minute", x.minutesTo(0), 10);
        Check.due("20 units at 1 a minute", x.minutesTo(1), 20);
        Check.due("as warm as wanted", x.minutesTo(2), 0);
    }

    private static void whyOff() {
        Check.sentence("Tells why the boiler does not burn in the next minute.");
        MixerStation x = new MixerStation();
        int[] due = {4, 4, 4, 0, 0};
        for (int minute = 0; minute < due.length; minute++) {
            Check.due("whyOff() behind " + minute + " minutes", x.whyOff(), due[minute]);
            x.pass(1);
            Check.due("about(3) then", x.about(3), due[minute] == 0 ? 1 : 0);
        }
        x.set(0, 0);
        Check.due("a boiler that is on stays on without power", x.whyOff(), 0);
        MixerStation cold = new MixerStation();
        cold.set(0, 0);
        Check.due("without power", cold.whyOff(), 3);
    }

    private static void whyShare() {
        Check.sentence("Tells why the valve is not fully open in the next minute.");
        MixerStation x = new MixerStation();
        Check.due("a cold boiler", x.whyShare(), 3);
        x.set(7, 0);
        Check.due("18 degrees are missing", x.whyShare(), 5);
        x.set(4, 6);
        Check.due("9 degrees are missing", x.whyShare(), 4);
        x.set(4, 0);
        Check.due("no degree is missing", x.whyShare(), 2);
        x.set(4, 12);
        int[] due = {5, 5, 5, 5, 0, 0};
        for (int minute = 0; minute < due.length; minute++) {
            Check.due("whyShare() behind " + minute + " minutes", x.whyShare(), due[minute]);
            x.pass(1);
            Check.due("about(5) then", x.about(5), Math.min(100, 20 * minute + 20));
        }
    }

    private static void bestSlope() {
        Check.sentence("Finds the best slope.");
        Check.sentence("Returns the slope, 0 to 30, with which all rooms together have the most minutes of comfort");
        MixerStation x = Check.station("M12060r32052r91499o-05");
        x.pass(20);
        int best = 0;
        int most = -1;
        for (int slope = 0; slope <= 30; slope++) {
            x.set(4, slope);
            int comfort = x.pass(60);
            x.undo();
            x.undo();
            if (comfort > most) {
                most = comfort;
                best = slope;
            }
        }
        Check.due("bestSlope(60)", x.bestSlope(60), best);
        Check.isTrue("not the first one", best > 0);
        Check.due("setting(4)", x.setting(4), 12);
    }

    private static void leastPower() {
        Check.sentence("Finds the least power that is enough.");
        MixerStation x = Check.station("M01060r31852o-02s300");
        int least = NONE;
        for (int power = 200; power >= 0; power -= 10) {
            x.set(0, power);
            int minutes = x.minutesTo(0);
            least = minutes != NONE && minutes <= 45 ? power : least;
            x.undo();
        }
        Check.due("leastPower(45)", x.leastPower(45), least);
        Check.isTrue("neither the first nor the last one", least > 0 && least < 200);
        Check.due("setting(0)", x.setting(0), 10);
    }

    private static void heatFor() {
        Check.sentence("Tells how much heat the boiler makes.");
        MixerStation x = Check.station("M07060s400");
        int[] due = {0, 0, 0, 0, 70, 140, 210};
        for (int minutes = 0; minutes < due.length; minutes++) {
            Check.due("heatFor(" + minutes + ")", x.heatFor(minutes), due[minutes]);
        }
        x.pass(5);
        Check.due("what came before does not count", x.heatFor(2), 140);
        Check.due("moved(9, 0)", x.moved(9, 0), 140);
    }

    private static void runScript() {
        Check.sentence("A script has 1 to 4 commands; each is a group of four decimal digits d1 to d4, and");
        MixerStation x = fourMinutes();
        Check.due("the boiler has 21 degrees", x.runScript(1, 6021), NONE);
        Check.due("it does not have 22", x.runScript(1, 6022), 0);
        Check.due("one fails behind one that succeeds", x.runScript(2, 60216022), 1);
        Check.due("two fail", x.runScript(2, 60226022), 0);
        Check.due("a minute and no fire", x.runScript(3, 1001_9000_9001L), 1);
        Check.due("summer limit, mild weather, an hour, no fire", x.runScript(4, 3810_2020_1060_9000L), NONE);
        Check.due("about(1)", x.about(1), 4);
        Check.due("about(2)", x.about(2), 5);
        Check.due("undo() knows of the text's four minutes only", x.undo(), 0);
    }

    private static void scriptDigits() {
        Check.sentence("script: the commands, a number of at most 4 * n digits (0 or more)");
        MixerStation x = new MixerStation();
        long most = 1;
        for (int n = 1; n <= 4; n++) {
            int commands = n;
            most *= 10000;
            long beyond = most;
            Check.due("0 for " + n, x.runScript(n, 0), 0);
            Check.due("the greatest for " + n, x.runScript(n, most - 1), 0);
            Check.thrown("one digit more for " + n, Check.ARGUMENT, () -> x.runScript(commands, beyond));
            Check.thrown("-1 for " + n, Check.ARGUMENT, () -> x.runScript(commands, -1));
        }
    }

    private static void simulate() {
        Check.sentence("Simulates m rounds on a copy of the state. A long x starts as the seed.");
        Check.sentence("seed: any long");
        for (long seed : new long[] {0, 1, -1, 20261120L, Long.MIN_VALUE, Long.MAX_VALUE}) {
            MixerStation x = Check.station("M09060r51632r92174r31510");
            x.pass(30);
            String before = Check.picture(x);
            long told = x.simulate(seed, 3);
            Check.isTrue("nothing is changed", Check.picture(x).equals(before));
            int made = x.moved(9, 0);
            int comfort = 0;
            long y = seed;
            for (int round = 0; round < 3; round++) {
                y = y * 6364136223846793005L + 1442695040888963407L;
                int r = (int) (y >>> 33);
                x.outside(r % 61 - 20);
                x.window(r / 64 % 3, r / 512 % 4 == 0);
                comfort += x.pass(10);
            }
            Check.due("simulate(" + seed + ", 3)", told, 1000000L * comfort + x.moved(9, 0) - made);
        }
    }

    private static void save() {
        Check.sentence("Stores the present state in a save slot.");
        Check.sentence("Returns the number of minutes so far.");
        MixerStation x = still();
        Check.due("save(0)", x.save(0), 0);
        x.pass(12);
        Check.due("save(1)", x.save(1), 12);
        x.pass(30);
        Check.due("save(1) again", x.save(1), 42);
        Check.due("undo() behind it", x.undo(), 1);
        Check.due("restore(1)", x.restore(1), 42);
        Check.due("restore(0)", x.restore(0), 0);
    }

    private static void restore() {
        Check.sentence("Returns the number of minutes then.");
        MixerStation x = fourMinutes();
        x.save(1);
        String before = Check.picture(x);
        x.pass(9);
        x.window(0, true);
        Check.due("restore(1)", x.restore(1), 4);
        Check.isTrue("the state is as saved", Check.picture(x).equals(before));
        Check.thrown("undo()", Check.STATE, x::undo);
        Check.thrown("restore(0)", Check.STATE, () -> x.restore(0));
    }
}
