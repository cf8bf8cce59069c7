/** Promises 12 to 18: addRoom, setRoom, window, set, outside, pass, undo. */
public final class ActionTest {
    private static final int[] LOW = {0, 30, 0, 0, 0, 1, 1, 0, 10};
    private static final int[] HIGH = {200, 80, 30, 30, 30, 50, 20, 60, 30};

    public static void main(String[] args) {
        addRoom();
        addRoomBehindUndo();
        setRoom();
        window();
        set();
        outside();
        pass();
        undo();
        undoEachAction();
        Check.end("ActionTest");
    }

    private static void addRoom() {
        MixerStation x = new MixerStation();
        int[][] wrong = {{0, 20, 5, 5}, {10, 20, 5, 5}, {5, 9, 5, 5}, {5, 26, 5, 5}, {5, 20, 0, 5}, {5, 20, 10, 5},
            {5, 20, 5, -1}, {5, 20, 5, 10}, {Integer.MAX_VALUE, 20, 5, 5}, {5, Integer.MIN_VALUE, 5, 5}};
        for (int[] a : wrong) {
            Check.thrownUnchanged(x, "addRoom", Check.ARGUMENT, () -> x.addRoom(a[0], a[1], a[2], a[3]));
        }
        Check.thrown("undo() behind refused rooms", Check.STATE, x::undo);
        Check.due("addRoom(1, 10, 1, 0)", x.addRoom(1, 10, 1, 0), 0);
        Check.due("addRoom(9, 25, 9, 9)", x.addRoom(9, 25, 9, 9), 1);
        for (int i = 2; i < 6; i++) {
            Check.due("addRoom(5, 20, 5, 5)", x.addRoom(5, 20, 5, 5), i);
        }
        Check.due("capacity of the room 1", x.place(3, 2), 90);
        Check.due("heat of the room 1", x.place(3, 0), 1350);
        Check.due("temperature of the room 1", x.place(3, 1), 15);
        Check.due("window of the room 1", x.room(1, 3), 0);
        Check.due("moved(9, 3)", x.moved(9, 3), 1350);
        Check.due("about(10)", x.about(10), 2000 + 150 + 1350 + 4 * 750);
        Check.due("about(11)", x.about(11), 6);
        Check.thrownUnchanged(x, "a seventh room", Check.STATE, () -> x.addRoom(5, 20, 5, 5));
        Check.thrownUnchanged(x, "a seventh, wrong room", Check.ARGUMENT, () -> x.addRoom(0, 20, 5, 5));
        Check.due("undo() of six rooms", x.undo(), 5);
        Check.due("the room is gone", x.about(0), 5);
        Check.due("its way is gone", x.moved(9, 7), 0);
        Check.due("a room again", x.addRoom(2, 12, 3, 4), 5);
        Check.due("the new room's leak", x.room(5, 2), 4);
        Check.due("the new room's heat", x.place(7, 0), 300);
    }

    // What the undone room had must not come back with a new one.
    private static void addRoomBehindUndo() {
        MixerStation x = Check.station("M06060r32052");
        x.addRoom(1, 16, 5, 9);
        x.outside(15);
        x.pass(1);
        x.window(1, true);
        x.outside(-20);
        x.pass(60);
        x.outside(40);
        x.pass(60);
        Check.isTrue("the room had all kinds of minutes", x.room(1, 4) > 0 && x.room(1, 5) > 0 && x.room(1, 6) > 0);
        for (int k = 0; k < 8; k++) {
            x.undo();
        }
        x.addRoom(9, 20, 1, 1);
        int[] due = {20, 1, 1, 0, 0, 0, 0};
        for (int what = 0; what < due.length; what++) {
            Check.due("room(1, " + what + ") behind undo", x.room(1, what), due[what]);
        }
        Check.due("its heat behind undo", x.place(3, 0), 1350);
        Check.due("moved(9, 3) behind undo", x.moved(9, 3), 1350);
    }

    private static void setRoom() {
        MixerStation x = Check.station("M06060r32052r91478");
        Check.due("setRoom(1, 0, 25)", x.setRoom(1, 0, 25), 14);
        Check.due("setRoom(1, 0, 10)", x.setRoom(1, 0, 10), 25);
        Check.due("setRoom(1, 1, 1)", x.setRoom(1, 1, 1), 7);
        Check.due("setRoom(1, 1, 9)", x.setRoom(1, 1, 9), 1);
        Check.due("setRoom(1, 2, 0)", x.setRoom(1, 2, 0), 8);
        Check.due("setRoom(1, 2, 9)", x.setRoom(1, 2, 9), 0);
        Check.due("room(1, 0)", x.room(1, 0), 10);
        Check.due("room(1, 1)", x.room(1, 1), 9);
        Check.due("room(1, 2)", x.room(1, 2), 9);
        Check.due("the other room", x.room(0, 0), 20);
        int[][] wrong = {{0, 9}, {0, 26}, {1, 0}, {1, 10}, {2, -1}, {2, 10}, {3, 5}, {-1, 15}};
        for (int[] a : wrong) {
            Check.thrownUnchanged(x, "setRoom(0, " + a[0] + ", " + a[1] + ")", Check.ARGUMENT,
                    () -> x.setRoom(0, a[0], a[1]));
            Check.thrownUnchanged(x, "setRoom(2, " + a[0] + ", " + a[1] + ")", Check.INDEX,
                    () -> x.setRoom(2, a[0], a[1]));
        }
        Check.thrownUnchanged(x, "setRoom(-1, 0, 15)", Check.INDEX, () -> x.setRoom(-1, 0, 15));
        Check.due("refused calls are no actions", x.undo(), 5);
    }

    private static void window() {
        MixerStation x = Check.station("M06060r32052r91499r11010");
        Check.due("window(0, true)", x.window(0, true), 1);
        Check.due("window(2, true)", x.window(2, true), 2);
        Check.due("window(2, true) again", x.window(2, true), 2);
        Check.due("window(1, false)", x.window(1, false), 2);
        Check.due("room(2, 3)", x.room(2, 3), 1);
        Check.due("window(0, false)", x.window(0, false), 1);
        Check.due("room(0, 3)", x.room(0, 3), 0);
        Check.thrownUnchanged(x, "window(3, true)", Check.INDEX, () -> x.window(3, true));
        Check.thrownUnchanged(x, "window(-1, false)", Check.INDEX, () -> x.window(-1, false));
        Check.due("each is an action", x.undo(), 4);
        Check.due("the window is open again", x.room(0, 3), 1);
    }

    private static void set() {
        MixerStation x = new MixerStation();
        for (int what = 0; what <= 8; what++) {
            int w = what;
            int first = x.setting(what);
            Check.due("set(" + what + ", low)", x.set(what, LOW[what]), first);
            Check.due("set(" + what + ", high)", x.set(what, HIGH[what]), LOW[what]);
            Check.thrownUnchanged(x, "set(" + what + ", too low)", Check.ARGUMENT, () -> x.set(w, LOW[w] - 1));
            Check.thrownUnchanged(x, "set(" + what + ", too high)", Check.ARGUMENT, () -> x.set(w, HIGH[w] + 1));
            Check.due("setting(" + what + ")", x.setting(what), HIGH[what]);
        }
        for (int what : new int[] {-1, 9, Integer.MAX_VALUE, Integer.MIN_VALUE}) {
            for (int v : new int[] {0, 1, 15, 30}) {
                Check.thrownUnchanged(x, "set(" + what + ", " + v + ")", Check.ARGUMENT, () -> x.set(what, v));
            }
        }
    }

    private static void outside() {
        MixerStation x = new MixerStation();
        Check.due("outside(-20)", x.outside(-20), 5);
        Check.due("outside(40)", x.outside(40), -20);
        Check.thrownUnchanged(x, "outside(-21)", Check.ARGUMENT, () -> x.outside(-21));
        Check.thrownUnchanged(x, "outside(41)", Check.ARGUMENT, () -> x.outside(41));
        Check.due("about(2)", x.about(2), 40);
        Check.due("undo() of outside", x.undo(), 1);
        Check.due("about(2) behind undo", x.about(2), -20);
    }

    private static void pass() {
        MixerStation x = Check.station("M06060r91610");
        Check.thrownUnchanged(x, "pass(0)", Check.ARGUMENT, () -> x.pass(0));
        Check.thrownUnchanged(x, "pass(61)", Check.ARGUMENT, () -> x.pass(61));
        Check.thrownUnchanged(x, "pass(-1)", Check.ARGUMENT, () -> x.pass(-1));
        Check.due("pass(60)", x.pass(60), 60);
        Check.due("pass(1)", x.pass(1), 1);
        Check.due("about(1)", x.about(1), 61);
        Check.due("together they are one action", x.undo(), 1);
        Check.due("about(1) behind undo", x.about(1), 60);
        MixerStation many = Check.station("M06060r32052o-05s206");
        MixerStation one = Check.station("M06060r32052o-05s206");
        int sum = 0;
        for (int k = 0; k < 60; k++) {
            sum += many.pass(1);
        }
        Check.due("60 minutes at once or one by one", one.pass(60), sum);
        Check.isTrue("the same state", Check.picture(one).equals(Check.picture(many)));
    }

    private static void undo() {
        MixerStation x = Check.station("M06060r32052");
        String[] pictures = new String[20];
        for (int k = 0; k < 20; k++) {
            pictures[k] = Check.picture(x);
            x.pass(k % 7 + 1);
        }
        for (int left = 13; left >= 0; left--) {
            Check.due("undo()", x.undo(), left);
            Check.isTrue("undo() to " + left, Check.picture(x).equals(pictures[left + 6]));
        }
        Check.thrownUnchanged(x, "a fifteenth undo()", Check.STATE, x::undo);
        x.pass(1);
        Check.due("undo() behind an empty one", x.undo(), 0);
        // Also an action that changes nothing is remembered.
        x.set(0, 60);
        x.window(0, false);
        Check.due("undo() of nothing", x.undo(), 1);
        Check.due("undo() of nothing", x.undo(), 0);
    }

    private static void undoEachAction() {
        MixerStation x = Check.station("M06060r32052");
        x.pass(33);
        String before = Check.picture(x);
        x.addRoom(1, 11, 1, 1);
        x.setRoom(0, 0, 11);
        x.window(0, true);
        x.set(4, 30);
        x.outside(-20);
        x.pass(50);
        Check.due("six actions behind the first", x.undo(), 6);
        for (int k = 0; k < 5; k++) {
            x.undo();
        }
        Check.isTrue("undo() of each kind", Check.picture(x).equals(before));
        // Looks ahead, queries and the text are no actions.
        x.ahead(0, 10);
        x.simulate(3, 3);
        x.save(0);
        x.append('M');
        Check.due("undo() of the first", x.undo(), 0);
        Check.due("the text is not taken back", x.clearText(), 13);
    }
}
