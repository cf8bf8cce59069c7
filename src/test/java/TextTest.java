/** Promises 1 to 5: a new object, append, clearText, errorPosition, load. */
public final class TextTest {
    public static void main(String[] args) {
        newObject();
        append();
        clearText();
        heads();
        rooms();
        outsides();
        settings();
        load();
        Check.end("TextTest");
    }

    private static void newObject() {
        MixerStation x = new MixerStation();
        int[] due = {0, 0, 5, 0, 0, 0, 0, 0, 38, 0, 2000, 0, 0};
        for (int what = 0; what < due.length; what++) {
            Check.due("new: about(" + what + ")", x.about(what), due[what]);
        }
        int[] settings = {60, 60, 5, 3, 12, 20, 10, 35, 18};
        for (int what = 0; what < settings.length; what++) {
            Check.due("new: setting(" + what + ")", x.setting(what), settings[what]);
        }
        Check.due("new: heat of the boiler", x.place(0, 0), 800);
        Check.due("new: heat of the loop", x.place(1, 0), 1200);
        Check.due("new: capacity of the boiler", x.place(0, 2), 40);
        Check.due("new: capacity of the loop", x.place(1, 2), 60);
        Check.due("new: errorPosition()", x.errorPosition(), 0);
        Check.thrown("new: undo()", Check.STATE, x::undo);
        Check.thrown("new: restore(0)", Check.STATE, () -> x.restore(0));
        Check.due("NONE", MixerStation.NONE, -99999);
    }

    private static void append() {
        MixerStation x = new MixerStation();
        Check.thrown("append(-1)", Check.ARGUMENT, () -> x.append(-1));
        Check.thrown("append(256)", Check.ARGUMENT, () -> x.append(256));
        Check.due("append(0)", x.append(0), 1);
        Check.due("append(255)", x.append(255), 2);
        for (int n = 3; n <= 80; n++) {
            Check.due("append to " + n, x.append('M'), n);
        }
        Check.thrown("append(77) to a full text", Check.STATE, () -> x.append('M'));
        Check.thrown("append(256) to a full text", Check.ARGUMENT, () -> x.append(256));
        Check.due("clearText() after a refused append", x.clearText(), 80);
        Check.due("append after clearText", x.append('M'), 1);
    }

    private static void clearText() {
        MixerStation x = new MixerStation();
        Check.due("clearText() of nothing", x.clearText(), 0);
        Check.type(x, "M0806");
        Check.due("clearText()", x.clearText(), 5);
        Check.due("clearText() again", x.clearText(), 0);
    }

    private static void error(String text, int want) {
        MixerStation x = new MixerStation();
        Check.type(x, text);
        Check.due("errorPosition() of " + text, x.errorPosition(), want);
        if (want != MixerStation.NONE) {
            Check.thrownUnchanged(x, "load() of " + text, Check.STATE, x::load);
        }
    }

    private static void heads() {
        error("", 0);
        error("m", 0);
        error("M", 1);
        error("M3", 1);
        error("M2", 2);
        error("M21", 2);
        error("M20", 3);
        error("M201", 3);
        error("M200", 4);
        error("M20029", 4);
        error("M2009", 4);
        error("M2008", 5);
        error("M20081", 5);
        error("M20080", MixerStation.NONE);
        error("M00030", MixerStation.NONE);
        error("M199791", 6);
        error("M0 030", 2);
        error("M00030 ", 6);
        error("M00030M00030", 6);
    }

    private static void rooms() {
        String m = "M06060";
        error(m + "r", 7);
        error(m + "r0", 7);
        error(m + "r1", 8);
        error(m + "r10", 8);
        error(m + "r13", 8);
        error(m + "r12", 9);
        error(m + "r126", 9);
        error(m + "r1250", 10);
        error(m + "r1259", 11);
        error(m + "r12599", MixerStation.NONE);
        error(m + "r11010", MixerStation.NONE);
        error(m + "R11010", 6);
        String six = m + "r11010".repeat(6);
        error(six, MixerStation.NONE);
        error(six + "r", 42);
        error(six + "o+05", MixerStation.NONE);
        error(six + "o+05r", 46);
        error(m + "o+05" + "r11010" + "s500", 6 + 4 + 6 + 3);
    }

    private static void outsides() {
        String m = "M06060o";
        error(m, 7);
        error(m + "5", 7);
        error(m + "+", 8);
        error(m + "+5", 8);
        error(m + "+4", 9);
        error(m + "+41", 9);
        error(m + "+40", MixerStation.NONE);
        error(m + "+00", MixerStation.NONE);
        error(m + "-00", 9);
        error(m + "-01", MixerStation.NONE);
        error(m + "-0", 9);
        error(m + "-20", MixerStation.NONE);
        error(m + "-21", 9);
        error(m + "-3", 8);
    }

    private static void settings() {
        String m = "M06060s";
        error(m, 7);
        error(m + "1", 7);
        error(m + "9", 7);
        String[] least = {"00", "00", "00", "01", "01", "00", "10"};
        String[] most = {"30", "30", "30", "50", "20", "60", "30"};
        for (int what = 2; what <= 8; what++) {
            error(m + what, 8);
            error(m + what + least[what - 2], MixerStation.NONE);
            error(m + what + most[what - 2], MixerStation.NONE);
            error(m + what + most[what - 2].charAt(0) + "1", 9);
            error(m + what + (char) (most[what - 2].charAt(0) + 1), 8);
            MixerStation x = Check.station(m + what + most[what - 2] + "s" + what + least[what - 2]);
            Check.due("the later s" + what, x.setting(what), Integer.parseInt(least[what - 2]));
        }
        error(m + "500", 9);
        error(m + "600", 9);
        error(m + "80", 8);
    }

    private static void load() {
        MixerStation x = new MixerStation();
        x.addRoom(9, 10, 1, 0);
        x.outside(30);
        x.set(8, 10);
        x.set(5, 50);
        x.pass(60);
        x.pass(60);
        x.save(0);
        x.save(1);
        x.outside(-10);
        x.pass(60);
        x.simulate(1, 60);
        x.set(8, 30);
        x.pass(40);
        x.ahead(0, 33);
        Check.type(x, "M08050r32052o+10s412r11091o-05s415");
        Check.due("load()", x.load(), 2);
        int[] due = {2, 0, -5, 0, 0, 0, 0, 0, 57, 0, 2000 + 450 + 150, 2, 0};
        for (int what = 0; what < due.length; what++) {
            Check.due("loaded: about(" + what + ")", x.about(what), due[what]);
        }
        int[] settings = {80, 50, 5, 3, 15, 20, 10, 35, 18};
        for (int what = 0; what < settings.length; what++) {
            Check.due("loaded: setting(" + what + ")", x.setting(what), settings[what]);
        }
        int[] first = {20, 5, 2, 0, 0, 0, 0};
        int[] second = {10, 9, 1, 0, 0, 0, 0};
        for (int what = 0; what < first.length; what++) {
            Check.due("loaded: room(0, " + what + ")", x.room(0, what), first[what]);
            Check.due("loaded: room(1, " + what + ")", x.room(1, what), second[what]);
        }
        Check.due("loaded: way(0, 1)", x.way(0, 1), 2);
        Check.due("loaded: way(1, 1)", x.way(1, 1), 3);
        Check.due("loaded: way(1, 2)", x.way(1, 2), 150);
        Check.thrown("loaded: undo()", Check.STATE, x::undo);
        Check.thrown("loaded: restore(0)", Check.STATE, () -> x.restore(0));
        Check.thrown("loaded: restore(1)", Check.STATE, () -> x.restore(1));
        Check.due("loaded: the text is kept", x.clearText(), 34);
        refusedLoadKeepsAll();
        loadBehindLooks();
    }

    // Whatever was looked at before, a loaded station is like one that nobody looked at.
    private static void loadBehindLooks() {
        String text = "M08050r32052r11091o-05";
        String due = Check.picture(Check.station(text));
        MixerStation x = Check.station(text);
        x.pass(60);
        x.ahead(0, 7);
        x.load();
        Check.isTrue("load() behind ahead in winter", Check.picture(x).equals(due));
        x.outside(30);
        x.pass(60);
        x.ahead(0, 31);
        x.load();
        Check.isTrue("load() behind ahead in summer", Check.picture(x).equals(due));
        x.outside(30);
        x.ahead(0, 20);
        x.load();
        Check.isTrue("load() behind ahead with a counter", Check.picture(x).equals(due));
    }

    private static void refusedLoadKeepsAll() {
        MixerStation x = Check.station("M06060r32052");
        x.pass(20);
        x.save(1);
        Check.type(x, "M06060r3205");
        Check.thrownUnchanged(x, "load() of half a room", Check.STATE, x::load);
        Check.due("restore(1) after a refused load", x.restore(1), 20);
        x.pass(1);
        Check.thrownUnchanged(x, "load() of half a room", Check.STATE, x::load);
        Check.due("undo() after a refused load", x.undo(), 0);
    }
}
