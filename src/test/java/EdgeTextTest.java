/** TEXT and the promises 1 to 5: a test for each sentence that names a boundary case. */
public final class EdgeTextTest {
    private static final int NONE = MixerStation.NONE;
    private static final String DIGITS = "0123456789";
    private static final String LEAST = "M00030";
    private static final String SIX = "r11010".repeat(6);
    /** 6 + 5 * 6 + 11 * 4 characters. */
    private static final String FULL = LEAST + "r11010".repeat(5) + "o+07".repeat(11);

    public static void main(String[] args) {
        newObject();
        characterCodes();
        eightyCharacters();
        clearing();
        heads();
        partsWithRooms();
        outsides();
        settings();
        blanks();
        fromLeftToRight();
        endsTooSoon();
        sixRooms();
        laterParts();
        leastAndGreatestStation();
        loadAsInANewObject();
        loadForgets();
        loadRefused();
        Check.end("EdgeTextTest");
    }

    private static void newObject() {
        Check.sentence("MixerStation(): Creates a station without rooms.");
        MixerStation x = new MixerStation();
        Check.due("about(0)", x.about(0), 0);
        Check.thrown("room(0, 0)", Check.INDEX, () -> x.room(0, 0));
        Check.due("the text is empty", x.clearText(), 0);
        Check.thrown("undo()", Check.STATE, x::undo);
        Check.thrown("restore(0)", Check.STATE, () -> x.restore(0));
        Check.thrown("restore(1)", Check.STATE, () -> x.restore(1));
    }

    private static void characterCodes() {
        Check.sentence("c: character code, 0 to 255");
        for (int c : new int[] {Integer.MIN_VALUE, -65536, -256, -1, 256, 257, 256 + 'M', 65536 + 'M', Integer.MAX_VALUE}) {
            MixerStation x = new MixerStation();
            Check.thrown("append(" + c + ")", Check.ARGUMENT, () -> x.append(c));
            Check.due("clearText() behind append(" + c + ")", x.clearText(), 0);
        }
        for (int from = 0; from < 256; from += 64) {
            MixerStation x = new MixerStation();
            for (int c = from; c < from + 64; c++) {
                Check.due("append(" + c + ")", x.append(c), c - from + 1);
            }
        }
    }

    private static void eightyCharacters() {
        Check.sentence("The object has a text buffer of at most 80 characters.");
        MixerStation x = new MixerStation();
        for (int k = 0; k < 80; k++) {
            Check.due("append() of the character " + k, x.append(FULL.charAt(k)), k + 1);
        }
        Check.due("errorPosition() of 80 characters", x.errorPosition(), NONE);
        Check.thrown("append('0') to 80 characters", Check.STATE, () -> x.append('0'));
        Check.thrown("append(0) to 80 characters", Check.STATE, () -> x.append(0));
        Check.thrown("append(255) to 80 characters", Check.STATE, () -> x.append(255));
        Check.thrown("append(-1) to 80 characters", Check.ARGUMENT, () -> x.append(-1));
        Check.thrown("append(256) to 80 characters", Check.ARGUMENT, () -> x.append(256));
        Check.due("errorPosition() behind refused characters", x.errorPosition(), NONE);
        Check.due("load() of 80 characters", x.load(), 5);
        Check.due("about(2) of 80 characters", x.about(2), 7);
        Check.due("clearText() of 80 characters", x.clearText(), 80);
        Check.due("append() behind it", x.append('M'), 1);
    }

    private static void clearing() {
        Check.sentence("Returns the previous length of the text.");
        MixerStation x = new MixerStation();
        Check.due("clearText() of nothing", x.clearText(), 0);
        x.append('M');
        Check.due("clearText() of one", x.clearText(), 1);
        Check.due("clearText() again", x.clearText(), 0);
        // What was in the buffer before must not be read again.
        Check.type(x, FULL);
        Check.type(x, "");
        Check.due("errorPosition() of nothing behind a full text", x.errorPosition(), 0);
        Check.thrown("load() of nothing behind a full text", Check.STATE, x::load);
        Check.type(x, "M000");
        Check.due("errorPosition() of M000 behind a full text", x.errorPosition(), 4);
        Check.type(x, LEAST + "r1101");
        Check.due("errorPosition() of half a room behind a full text", x.errorPosition(), 11);
        Check.type(x, LEAST);
        Check.due("errorPosition() of a short station behind a full text", x.errorPosition(), NONE);
        Check.due("load() of a short station behind a full text", x.load(), 0);
    }

    private static int error(String text) {
        MixerStation x = new MixerStation();
        for (int k = 0; k < text.length(); k++) {
            x.append(text.charAt(k));
        }
        return x.errorPosition();
    }

    /** Behind the text just these characters are allowed, whatever comes behind them. */
    private static void next(String text, String allowed, boolean station) {
        Check.due("errorPosition() of " + text, error(text), station ? NONE : text.length());
        for (char c = 0; c < 256; c++) {
            if (allowed.indexOf(c) < 0) {
                Check.due("errorPosition() of " + text + " and the character " + (int) c, error(text + c), text.length());
                if (text.length() < 79) {
                    Check.due("errorPosition() of " + text + ", the character " + (int) c + " and 0",
                            error(text + c + '0'), text.length());
                }
            } else {
                int got = error(text + c);
                Check.isTrue("errorPosition() of " + text + c + " is behind it, " + got,
                        got == NONE || got == text.length() + 1);
            }
        }
    }

    private static void heads() {
        Check.sentence("A station is the letter M, three digits for the power (000 to 200), two for the setpoint (30 to 80), "
                + "and then any number of parts, in any order:");
        next("", "M", false);
        next("M", "012", false);
        next("M0", DIGITS, false);
        next("M1", DIGITS, false);
        next("M2", "0", false);
        next("M00", DIGITS, false);
        next("M19", DIGITS, false);
        next("M20", "0", false);
        next("M000", "345678", false);
        next("M200", "345678", false);
        next("M0003", DIGITS, false);
        next("M0007", DIGITS, false);
        next("M2008", "0", false);
        next("M00030", "ros", true);
        next("M20080", "ros", true);
        next("M19979", "ros", true);
    }

    private static void partsWithRooms() {
        Check.sentence("the letter r, a digit for a tenth of the capacity of a room (1 to 9), two for its wanted temperature "
                + "(10 to 25), one for its radiators (1 to 9) and one for its leak (0 to 9), at most 6 of them;");
        for (String text : new String[] {LEAST, "M20080o-20s830", LEAST + "r92599"}) {
            next(text, "ros", true);
            next(text + "r", "123456789", false);
            next(text + "r1", "12", false);
            next(text + "r9", "12", false);
            next(text + "r11", DIGITS, false);
            next(text + "r12", "012345", false);
            next(text + "r110", "123456789", false);
            next(text + "r925", "123456789", false);
            next(text + "r1101", DIGITS, false);
            next(text + "r9259", DIGITS, false);
            next(text + "r11010", "ros", true);
            next(text + "r92599", "ros", true);
        }
    }

    private static void outsides() {
        Check.sentence("the letter o, a sign + or -, and two digits for the temperature outside (00 to 40 behind +, 01 to 20 "
                + "behind -);");
        next(LEAST + "o", "+-", false);
        next(LEAST + "o+", "01234", false);
        next(LEAST + "o+0", DIGITS, false);
        next(LEAST + "o+3", DIGITS, false);
        next(LEAST + "o+4", "0", false);
        next(LEAST + "o-", "012", false);
        next(LEAST + "o-0", "123456789", false);
        next(LEAST + "o-1", DIGITS, false);
        next(LEAST + "o-2", "0", false);
        String[] ends = {"+00", "+40", "-01", "-20"};
        int[] due = {0, 40, -1, -20};
        for (int k = 0; k < ends.length; k++) {
            next(LEAST + "o" + ends[k], "ros", true);
            Check.due("about(2) of o" + ends[k], Check.station(LEAST + "o" + ends[k]).about(2), due[k]);
        }
    }

    private static void settings() {
        Check.sentence("the letter s, the digit of a setting from 2 to 8, and two digits for it, in its range.");
        next(LEAST + "s", "2345678", false);
        String[] firstDigits = {"0123", "0123", "0123", "012345", "012", "0123456", "123"};
        int[] low = {0, 0, 0, 1, 1, 0, 10};
        int[] high = {30, 30, 30, 50, 20, 60, 30};
        for (int what = 2; what <= 8; what++) {
            String part = LEAST + "s" + what;
            String first = firstDigits[what - 2];
            next(part, first, false);
            for (char c : first.toCharArray()) {
                boolean last = c == first.charAt(first.length() - 1);
                next(part + c, last ? "0" : c == '0' && low[what - 2] == 1 ? "123456789" : DIGITS, false);
            }
            for (int v = 0; v <= 99; v++) {
                String text = part + v / 10 + v % 10;
                boolean allowed = v >= low[what - 2] && v <= high[what - 2];
                Check.isTrue("errorPosition() of " + text + " is " + error(text) + ": this",
                        allowed ? error(text) == NONE : error(text) == 8 || error(text) == 9);
                if (allowed) {
                    Check.due("setting(" + what + ") of " + text, Check.station(text).setting(what), v);
                }
            }
        }
    }

    private static void blanks() {
        Check.sentence("There are no blanks.");
        String text = "M00030r11010o+05s412";
        for (int k = 0; k <= text.length(); k++) {
            Check.due("errorPosition() with a blank at " + k, error(text.substring(0, k) + " " + text.substring(k)), k);
        }
    }

    private static void fromLeftToRight() {
        Check.sentence("The error position is the index of the first character that these rules do not allow at its place");
        Check.due("an early and a late error", error("M00030r01010s499"), 7);
        Check.due("a late error", error("M00030r11010s499"), 14);
        Check.due("an error as the first character", error("XM00030"), 0);
        Check.due("an error as the last of 80 characters", error(FULL.substring(0, 79) + "x"), 79);
        Check.due("an error as the first of 80 characters", error("x" + FULL.substring(1)), 0);
    }

    private static void endsTooSoon() {
        Check.sentence("if the text ends too soon, it is the length of the text.");
        String text = "M20080r92599o+40o-20s230s330s430s550s620s760s830r11010o-01o+00";
        for (int k = 0; k <= text.length(); k++) {
            boolean whole = k >= 6 && (k == text.length() || "ros".indexOf(text.charAt(k)) >= 0);
            Check.due("errorPosition() of the first " + k, error(text.substring(0, k)), whole ? NONE : k);
        }
        Check.due("errorPosition() of 80 characters", error(LEAST + "s412".repeat(17) + "r11010"), NONE);
        Check.due("errorPosition() of 80 characters that end too soon", error(LEAST + "s412".repeat(18) + "s4"), 80);
    }

    private static void sixRooms() {
        Check.sentence("a seventh r is not allowed");
        for (int rooms = 0; rooms <= 6; rooms++) {
            String text = LEAST + "r11010".repeat(rooms);
            next(text, rooms < 6 ? "ros" : "os", true);
            Check.due("load() of " + rooms + " rooms", Check.station(text).load(), rooms);
        }
        next(LEAST + SIX + "o+05", "os", true);
        next(LEAST + "s412" + SIX.substring(6) + "o+05r11010s830", "os", true);
        Check.due("a seventh room between other parts", error(LEAST + SIX + "o+05r11010o+05"), 46);
    }

    private static void laterParts() {
        Check.sentence("Later parts with o and s replace earlier ones.");
        MixerStation x = Check.station(LEAST + "o+40o-20o+11s201s230s212");
        Check.due("about(2) of o+40, o-20 and o+11", x.about(2), 11);
        Check.due("setting(2) of s201, s230 and s212", x.setting(2), 12);
        MixerStation y = Check.station(LEAST + "s212s310s201o+11r11010o-20");
        Check.due("about(2)", y.about(2), -20);
        Check.due("setting(2)", y.setting(2), 1);
        Check.due("setting(3)", y.setting(3), 10);
    }

    private static void leastAndGreatestStation() {
        Check.sentence("two for the setpoint (30 to 80)");
        MixerStation least = Check.station("M00030s200s300s400s501s601s700s810o-20" + "r11010");
        int[] low = {0, 30, 0, 0, 0, 1, 1, 0, 10};
        MixerStation most = Check.station("M20080s230s330s430s550s620s760s830o+40" + "r92599");
        int[] high = {200, 80, 30, 30, 30, 50, 20, 60, 30};
        MixerStation none = Check.station("M20080");
        int[] first = {200, 80, 5, 3, 12, 20, 10, 35, 18};
        for (int what = 0; what <= 8; what++) {
            Check.due("the least setting(" + what + ")", least.setting(what), low[what]);
            Check.due("the greatest setting(" + what + ")", most.setting(what), high[what]);
            Check.due("setting(" + what + ") without parts", none.setting(what), first[what]);
        }
        int[] small = {10, 1, 0, 0, 0, 0, 0};
        int[] great = {25, 9, 9, 0, 0, 0, 0};
        for (int what = 0; what <= 6; what++) {
            Check.due("the least room(0, " + what + ")", least.room(0, what), small[what]);
            Check.due("the greatest room(0, " + what + ")", most.room(0, what), great[what]);
        }
        Check.due("the least capacity", least.place(2, 2), 10);
        Check.due("the greatest capacity", most.place(2, 2), 90);
        Check.due("outside without o", none.about(2), 5);
    }

    private static void loadAsInANewObject() {
        Check.sentence("Makes everything as in a new object, and then as the text tells "
                + "(its rooms are added in the order of the text, as by addRoom()).");
        MixerStation due = new MixerStation();
        due.addRoom(3, 20, 5, 2);
        due.addRoom(9, 14, 9, 9);
        due.outside(-5);
        due.set(0, 80);
        due.set(8, 10);
        String text = "M08060r32052s810o-05r91499";
        String picture = Check.picture(due);
        Check.isTrue("load() in a new object", Check.picture(Check.station(text)).equals(picture));
        MixerStation used = used();
        Check.type(used, text);
        Check.due("load() in a used object", used.load(), 2);
        Check.isTrue("it is as in a new one", Check.picture(used).equals(picture));
        MixerStation none = used();
        Check.type(none, "M06060");
        Check.due("load() without rooms", none.load(), 0);
        Check.isTrue("it is as a new one", Check.picture(none).equals(Check.picture(new MixerStation())));
    }

    /** Six rooms, all kinds of ways, summer, a boiler that was on, open windows, other settings. */
    private static MixerStation used() {
        MixerStation x = Check.station("M20080" + SIX + "s200s300s430s550s601s700s830o-20");
        x.window(0, true);
        x.window(5, true);
        x.pass(60);
        x.outside(40);
        x.pass(60);
        x.pass(7);
        x.save(0);
        x.save(1);
        // What was looked at must not be seen in a loaded station either.
        x.simulate(3, 60);
        return x;
    }

    private static void loadForgets() {
        Check.sentence("Forgets all remembered states and empties both save slots. Keeps the text.");
        MixerStation x = used();
        x.load();
        Check.thrown("undo()", Check.STATE, x::undo);
        Check.thrown("restore(0)", Check.STATE, () -> x.restore(0));
        Check.thrown("restore(1)", Check.STATE, () -> x.restore(1));
        Check.due("errorPosition()", x.errorPosition(), NONE);
        Check.due("load() again", x.load(), 6);
        Check.due("clearText()", x.clearText(), 6 + 36 + 28 + 4);
        Check.sentence("load and restore are not actions.");
        MixerStation y = Check.station(LEAST);
        y.set(0, 1);
        Check.due("undo() behind load() and one action", y.undo(), 0);
        Check.due("setting(0)", y.setting(0), 0);
        Check.thrown("undo() of load()", Check.STATE, y::undo);
    }

    private static void loadRefused() {
        Check.sentence("Throws IllegalStateException if the text is not a station");
        for (String text : new String[] {"", "M", "M0003", LEAST + "r", LEAST + "r1101", LEAST + "o", LEAST + "o-00",
            LEAST + "s", LEAST + "s500", "M20130", "M00029", "M00081", LEAST + SIX + "r11010", LEAST + "\0",
            LEAST + "s412".repeat(18) + "s4"}) {
            MixerStation x = used();
            String before = Check.picture(x);
            Check.type(x, text);
            Check.thrown("load() of " + text, Check.STATE, x::load);
            Check.isTrue("all is as it was", Check.picture(x).equals(before));
            Check.due("undo()", x.undo(), 5);
            Check.due("restore(1)", x.restore(1), 127);
            Check.due("the text is kept", x.clearText(), text.length());
        }
    }
}
