import java.util.ArrayList;
import java.util.List;
import java.util.function.IntUnaryOperator;

/** ACTIONS AND UNDO and the promises 6 to 18: a test for each sentence that names a boundary case. */
public final class EdgeActionTest {
    private static final int[] NEAR = {Integer.MIN_VALUE, -1, Integer.MAX_VALUE};

    public static void main(String[] args) {
        about();
        setting();
        place();
        room();
        moved();
        way();
        addRoom();
        setRoom();
        window();
        set();
        outside();
        pass();
        passIsOneAction();
        eachIsAnAction();
        actionsWithoutEffect();
        undoIsNoAction();
        roomsThatAreGone();
        fourteenStates();
        fourteenStatesAgain();
        refusedCallsAreNoActions();
        Check.end("EdgeActionTest");
    }

    private static MixerStation sixRooms() {
        return Check.station("M06060" + "r91519".repeat(6) + "o-05");
    }

    private static void about() {
        Check.sentence("Throws IllegalArgumentException if what is not 0 to 12");
        MixerStation x = new MixerStation();
        int[] due = {0, 0, 5, 0, 0, 0, 0, 0, 38, 0, 2000, 0, 0};
        for (int what = 0; what <= 12; what++) {
            Check.due("about(" + what + ") of a new object", x.about(what), due[what]);
        }
        Check.thrown("about(13)", Check.ARGUMENT, () -> x.about(13));
        for (int what : NEAR) {
            Check.thrown("about(" + what + ")", Check.ARGUMENT, () -> x.about(what));
        }
        MixerStation y = sixRooms();
        y.pass(60);
        int heat = 0;
        int comfort = 0;
        for (int p = 0; p <= 7; p++) {
            heat += y.place(p, 0);
        }
        for (int i = 0; i <= 5; i++) {
            comfort += y.room(i, 4);
        }
        Check.due("about(10) of six rooms", y.about(10), heat);
        Check.due("about(12) of six rooms", y.about(12), comfort);
        Check.isTrue("there was comfort", comfort > 0);
    }

    private static void setting() {
        Check.sentence("Returns that setting.");
        MixerStation x = new MixerStation();
        int[] due = {60, 60, 5, 3, 12, 20, 10, 35, 18};
        for (int what = 0; what <= 8; what++) {
            Check.due("setting(" + what + ")", x.setting(what), due[what]);
        }
        Check.thrown("setting(9)", Check.ARGUMENT, () -> x.setting(9));
        for (int what : NEAR) {
            Check.thrown("setting(" + what + ")", Check.ARGUMENT, () -> x.setting(what));
        }
    }

    private static void place() {
        Check.sentence("Throws IndexOutOfBoundsException if there is no such place with heat");
        for (int rooms = 0; rooms <= 6; rooms++) {
            MixerStation x = Check.station("M06060" + "r91519".repeat(rooms));
            Check.due("place(last, 2)", x.place(1 + rooms, 2), rooms == 0 ? 60 : 90);
            for (int p : new int[] {-1, 2 + rooms, 8, 9, 10, Integer.MIN_VALUE, Integer.MAX_VALUE}) {
                Check.thrown("place(" + p + ", 0) of " + rooms, Check.INDEX, () -> x.place(p, 0));
                Check.thrown("place(" + p + ", 3) of " + rooms, Check.INDEX, () -> x.place(p, 3));
                Check.thrown("place(" + p + ", -1) of " + rooms, Check.INDEX, () -> x.place(p, -1));
            }
        }
        Check.sentence("Throws IllegalArgumentException if what is not 0 to 2");
        MixerStation x = sixRooms();
        for (int p : new int[] {0, 1, 2, 7}) {
            Check.due("place(" + p + ", 0)", x.place(p, 0), p == 0 ? 800 : p == 1 ? 1200 : 1350);
            Check.due("place(" + p + ", 1)", x.place(p, 1), p <= 1 ? 20 : 15);
            Check.due("place(" + p + ", 2)", x.place(p, 2), p == 0 ? 40 : p == 1 ? 60 : 90);
            Check.thrown("place(" + p + ", 3)", Check.ARGUMENT, () -> x.place(p, 3));
            for (int what : NEAR) {
                Check.thrown("place(" + p + ", " + what + ")", Check.ARGUMENT, () -> x.place(p, what));
            }
        }
    }

    private static void room() {
        Check.sentence("Throws IndexOutOfBoundsException if there is no such room");
        for (int rooms = 0; rooms <= 6; rooms++) {
            MixerStation x = Check.station("M06060" + "r91519".repeat(rooms));
            if (rooms > 0) {
                Check.due("room(last, 2)", x.room(rooms - 1, 2), 9);
            }
            for (int i : new int[] {-1, rooms, 6, Integer.MIN_VALUE, Integer.MAX_VALUE}) {
                Check.thrown("room(" + i + ", 0) of " + rooms, Check.INDEX, () -> x.room(i, 0));
                Check.thrown("room(" + i + ", 7) of " + rooms, Check.INDEX, () -> x.room(i, 7));
                Check.thrown("room(" + i + ", -1) of " + rooms, Check.INDEX, () -> x.room(i, -1));
            }
        }
        Check.sentence("Throws IllegalArgumentException if what is not 0 to 6");
        MixerStation x = sixRooms();
        int[] due = {15, 1, 9, 0, 0, 0, 0};
        for (int i : new int[] {0, 5}) {
            for (int what = 0; what <= 6; what++) {
                Check.due("room(" + i + ", " + what + ")", x.room(i, what), due[what]);
            }
            Check.thrown("room(" + i + ", 7)", Check.ARGUMENT, () -> x.room(i, 7));
            for (int what : NEAR) {
                Check.thrown("room(" + i + ", " + what + ")", Check.ARGUMENT, () -> x.room(i, what));
            }
        }
    }

    private static void moved() {
        Check.sentence("Returns the units; 0 if this is no way of the ledger.");
        MixerStation x = sixRooms();
        for (int from = 0; from <= 9; from++) {
            for (int to = 0; to <= 9; to++) {
                Check.due("moved(" + from + ", " + to + ")", x.moved(from, to), from == 9 && to >= 2 && to <= 7 ? 1350 : 0);
            }
        }
        Check.sentence("Throws IllegalArgumentException if from or to is out of range");
        for (int wrong : new int[] {-1, 10, Integer.MIN_VALUE, Integer.MAX_VALUE}) {
            for (int right : new int[] {0, 9}) {
                Check.thrown("moved(" + wrong + ", " + right + ")", Check.ARGUMENT, () -> x.moved(wrong, right));
                Check.thrown("moved(" + right + ", " + wrong + ")", Check.ARGUMENT, () -> x.moved(right, wrong));
            }
            Check.thrown("moved(" + wrong + ", " + wrong + ")", Check.ARGUMENT, () -> x.moved(wrong, wrong));
        }
        // A room that does not exist is a place from 0 to 9 all the same.
        Check.due("moved(9, 7) without rooms", new MixerStation().moved(9, 7), 0);
    }

    private static void way() {
        Check.sentence("k: which way, from 0, in the order of the ledger");
        for (int rooms = 0; rooms <= 6; rooms++) {
            MixerStation x = Check.station("M06060" + "r91519".repeat(rooms));
            if (rooms > 0) {
                Check.due("way(0, 1)", x.way(0, 1), 2);
                Check.due("way(last, 0)", x.way(rooms - 1, 0), 9);
                Check.due("way(last, 1)", x.way(rooms - 1, 1), 1 + rooms);
                Check.due("way(last, 2)", x.way(rooms - 1, 2), 1350);
                Check.thrown("way(0, 3)", Check.ARGUMENT, () -> x.way(0, 3));
                for (int what : NEAR) {
                    Check.thrown("way(0, " + what + ")", Check.ARGUMENT, () -> x.way(0, what));
                }
            }
            for (int k : new int[] {-1, rooms, 26, Integer.MIN_VALUE, Integer.MAX_VALUE}) {
                Check.thrown("way(" + k + ", 0) of " + rooms, Check.INDEX, () -> x.way(k, 0));
                Check.thrown("way(" + k + ", 3) of " + rooms, Check.INDEX, () -> x.way(k, 3));
            }
        }
    }

    private static void addRoom() {
        Check.sentence("Adds a room behind the others, with 15 degrees (this heat comes from elsewhere) and a closed window.");
        int[] low = {1, 10, 1, 0};
        int[] high = {9, 25, 9, 9};
        for (int k = 0; k < 4; k++) {
            int[] far = {low[k] - 1, high[k] + 1, Integer.MIN_VALUE, Integer.MAX_VALUE};
            for (int v : far) {
                MixerStation x = new MixerStation();
                int[] a = {5, 20, 5, 5};
                a[k] = v;
                Check.thrown("addRoom with " + v + " as the argument " + k, Check.ARGUMENT,
                        () -> x.addRoom(a[0], a[1], a[2], a[3]));
                Check.due("about(0)", x.about(0), 0);
                Check.due("about(11)", x.about(11), 0);
                Check.thrown("undo()", Check.STATE, x::undo);
            }
            for (int v : new int[] {low[k], high[k]}) {
                MixerStation x = new MixerStation();
                int[] a = {5, 20, 5, 5};
                a[k] = v;
                Check.due("addRoom with " + v + " as the argument " + k, x.addRoom(a[0], a[1], a[2], a[3]), 0);
                int[] got = {x.place(2, 2) / 10, x.room(0, 0), x.room(0, 1), x.room(0, 2)};
                Check.due("the argument " + k, got[k], v);
                Check.due("temperature", x.place(2, 1), 15);
                Check.due("heat", x.place(2, 0), 150 * a[0]);
                Check.due("from elsewhere", x.moved(9, 2), 150 * a[0]);
            }
        }
        Check.sentence("Throws IllegalStateException if there are 6 rooms");
        MixerStation x = sixRooms();
        Check.thrown("a seventh", Check.STATE, () -> x.addRoom(1, 10, 1, 0));
        Check.thrown("a seventh", Check.STATE, () -> x.addRoom(9, 25, 9, 9));
        Check.thrown("a seventh of 0", Check.ARGUMENT, () -> x.addRoom(0, 10, 1, 0));
        Check.thrown("a seventh with a leak of 10", Check.ARGUMENT, () -> x.addRoom(9, 25, 9, 10));
        Check.due("about(0)", x.about(0), 6);
    }

    private static void setRoom() {
        Check.sentence("what: 0: its wanted temperature, 10 to 25; 1: its radiators, 1 to 9; 2: its leak, 0 to 9");
        MixerStation x = sixRooms();
        int[] low = {10, 1, 0};
        int[] high = {25, 9, 9};
        int[] first = {15, 1, 9};
        for (int what = 0; what <= 2; what++) {
            int w = what;
            Check.thrown("below the least", Check.ARGUMENT, () -> x.setRoom(5, w, low[w] - 1));
            Check.thrown("beyond the greatest", Check.ARGUMENT, () -> x.setRoom(5, w, high[w] + 1));
            Check.thrown("MIN", Check.ARGUMENT, () -> x.setRoom(5, w, Integer.MIN_VALUE));
            Check.thrown("MAX", Check.ARGUMENT, () -> x.setRoom(5, w, Integer.MAX_VALUE));
            Check.due("setRoom(5, " + what + ", least)", x.setRoom(5, what, low[what]), first[what]);
            Check.due("the same again", x.setRoom(5, what, low[what]), low[what]);
            Check.due("setRoom(5, " + what + ", greatest)", x.setRoom(5, what, high[what]), low[what]);
            Check.due("room(5, " + what + ")", x.room(5, what), high[what]);
            Check.due("room(4, " + what + ")", x.room(4, what), first[what]);
            Check.thrown("no room 6", Check.INDEX, () -> x.setRoom(6, w, high[w]));
            Check.thrown("no room 6, nor such a number", Check.INDEX, () -> x.setRoom(6, w, 99));
            Check.thrown("no room -1, nor such a number", Check.INDEX, () -> x.setRoom(-1, w, -99));
        }
        for (int v : new int[] {0, 1, 9, 10, 25}) {
            Check.thrown("setRoom(0, -1, " + v + ")", Check.ARGUMENT, () -> x.setRoom(0, -1, v));
            Check.thrown("setRoom(0, 3, " + v + ")", Check.ARGUMENT, () -> x.setRoom(0, 3, v));
        }
        Check.thrown("setRoom(6, 3, 5)", Check.INDEX, () -> x.setRoom(6, 3, 5));
        Check.thrown("setRoom(0, 0, 20) without rooms", Check.INDEX, () -> new MixerStation().setRoom(0, 0, 20));
    }

    private static void window() {
        Check.sentence("Returns how many windows are open then.");
        MixerStation x = sixRooms();
        Check.due("closing a closed one", x.window(0, false), 0);
        for (int i = 5; i >= 0; i--) {
            Check.due("opening " + i, x.window(i, true), 6 - i);
            Check.due("opening " + i + " again", x.window(i, true), 6 - i);
        }
        for (int i = 0; i <= 5; i++) {
            Check.due("closing " + i, x.window(i, false), 5 - i);
            Check.due("room(" + i + ", 3)", x.room(i, 3), 0);
        }
        for (int i : new int[] {-1, 6, Integer.MIN_VALUE, Integer.MAX_VALUE}) {
            Check.thrown("window(" + i + ", true)", Check.INDEX, () -> x.window(i, true));
        }
        MixerStation none = new MixerStation();
        Check.thrown("window(0, false) without rooms", Check.INDEX, () -> none.window(0, false));
    }

    private static void set() {
        Check.sentence("Throws IllegalArgumentException if what or v is out of range");
        int[] low = {0, 30, 0, 0, 0, 1, 1, 0, 10};
        int[] high = {200, 80, 30, 30, 30, 50, 20, 60, 30};
        for (int what = 0; what <= 8; what++) {
            MixerStation x = new MixerStation();
            int w = what;
            for (int v : new int[] {low[w] - 1, high[w] + 1, Integer.MIN_VALUE, Integer.MAX_VALUE}) {
                int before = x.setting(what);
                Check.thrown("set(" + what + ", " + v + ")", Check.ARGUMENT, () -> x.set(w, v));
                Check.due("setting(" + what + ")", x.setting(what), before);
            }
            int before = x.setting(what);
            Check.due("set(" + what + ", least)", x.set(what, low[what]), before);
            Check.due("set(" + what + ", greatest)", x.set(what, high[what]), low[what]);
            Check.due("set(" + what + ", greatest) again", x.set(what, high[what]), high[what]);
            Check.due("setting(" + what + ")", x.setting(what), high[what]);
        }
        MixerStation x = new MixerStation();
        for (int what : new int[] {-1, 9, Integer.MIN_VALUE, Integer.MAX_VALUE}) {
            for (int v : new int[] {-1, 0, 1, 2, 20, 30}) {
                Check.thrown("set(" + what + ", " + v + ")", Check.ARGUMENT, () -> x.set(what, v));
            }
        }
    }

    private static void outside() {
        Check.sentence("Returns the previous temperature outside.");
        MixerStation x = new MixerStation();
        for (int degrees : new int[] {-21, 41, Integer.MIN_VALUE, Integer.MAX_VALUE}) {
            Check.thrown("outside(" + degrees + ")", Check.ARGUMENT, () -> x.outside(degrees));
            Check.due("about(2)", x.about(2), 5);
        }
        Check.due("outside(40)", x.outside(40), 5);
        Check.due("outside(-20)", x.outside(-20), 40);
        Check.due("outside(-20) again", x.outside(-20), -20);
    }

    private static void pass() {
        Check.sentence("Returns the minutes of comfort of all rooms in them.");
        MixerStation x = Check.station("M00060" + "r91510".repeat(6));
        for (int minutes : new int[] {0, 61, -1, Integer.MIN_VALUE, Integer.MAX_VALUE}) {
            Check.thrown("pass(" + minutes + ")", Check.ARGUMENT, () -> x.pass(minutes));
            Check.due("about(1)", x.about(1), 0);
        }
        Check.due("pass(1) of six rooms", x.pass(1), 6);
        Check.due("pass(60) of six rooms", x.pass(60), 360);
        Check.due("about(1)", x.about(1), 61);
        Check.due("about(12)", x.about(12), 366);
        x.setRoom(5, 0, 25);
        Check.due("pass(1) with a cold room", x.pass(1), 5);
        Check.due("pass(60) without rooms", new MixerStation().pass(60), 0);
    }

    private static void passIsOneAction() {
        Check.sentence("Lets minutes go by. (Together they are one action.)");
        MixerStation x = sixRooms();
        x.pass(60);
        x.pass(60);
        x.pass(1);
        Check.due("undo() of pass(1)", x.undo(), 2);
        Check.due("about(1)", x.about(1), 120);
        Check.due("undo() of pass(60)", x.undo(), 1);
        Check.due("about(1)", x.about(1), 60);
        Check.due("undo() of the other pass(60)", x.undo(), 0);
        Check.due("about(1)", x.about(1), 0);
    }

    private static void eachIsAnAction() {
        Check.sentence("Before each action, the state is remembered.");
        List<IntUnaryOperator> actions = new ArrayList<>();
        MixerStation x = Check.station("M06060r91519");
        actions.add(k -> x.addRoom(1, 10, 1, 0));
        actions.add(k -> x.setRoom(0, 2, 0));
        actions.add(k -> x.window(0, true));
        actions.add(k -> x.set(4, 30));
        actions.add(k -> x.outside(-20));
        actions.add(k -> x.pass(60));
        for (int k = 0; k < actions.size(); k++) {
            String before = Check.picture(x);
            actions.get(k).applyAsInt(k);
            Check.isTrue("the action " + k + " changes the state", !Check.picture(x).equals(before));
            Check.due("undo() of the action " + k, x.undo(), 0);
            Check.isTrue("undo() of the action " + k + " brings the state back", Check.picture(x).equals(before));
            Check.thrown("undo() of none", Check.STATE, x::undo);
        }
    }

    private static void actionsWithoutEffect() {
        Check.sentence("Each call of one of them that does not throw an exception is an action, "
                + "also if nothing becomes different (undo is none).");
        MixerStation x = Check.station("M06060r91519");
        String before = Check.picture(x);
        x.setRoom(0, 0, 15);
        x.setRoom(0, 1, 1);
        x.setRoom(0, 2, 9);
        x.window(0, false);
        x.set(0, 60);
        x.set(8, 18);
        x.outside(5);
        Check.isTrue("nothing is different", Check.picture(x).equals(before));
        for (int left = 6; left >= 0; left--) {
            Check.due("undo()", x.undo(), left);
        }
        Check.isTrue("nothing is different", Check.picture(x).equals(before));
        Check.thrown("undo() of nothing", Check.STATE, x::undo);
    }

    private static void undoIsNoAction() {
        Check.sentence("(undo is none)");
        MixerStation x = new MixerStation();
        x.set(0, 1);
        x.set(0, 2);
        x.set(0, 3);
        Check.due("undo()", x.undo(), 2);
        Check.due("setting(0)", x.setting(0), 2);
        Check.due("undo()", x.undo(), 1);
        Check.due("setting(0)", x.setting(0), 1);
        x.set(0, 4);
        Check.due("undo() behind another action", x.undo(), 1);
        Check.due("setting(0)", x.setting(0), 1);
        Check.due("undo()", x.undo(), 0);
        Check.due("setting(0)", x.setting(0), 60);
        Check.thrown("undo()", Check.STATE, x::undo);
    }

    // A room that was there before, with its comfort, its open window and its ways, must leave nothing behind.
    private static void roomsThatAreGone() {
        for (int rooms = 0; rooms <= 5; rooms++) {
            String text = "M12060" + "r91659".repeat(rooms) + "o+05";
            Check.sentence("Takes back the last action that is remembered.");
            MixerStation undone = Check.station(text);
            for (int left = sixRoomsAndAnHour(undone); left > 0; left--) {
                undone.undo();
            }
            asIfNewlyLoaded(undone, text);
            Check.sentence("Replaces the state by the one in a save slot");
            MixerStation restored = Check.station(text);
            restored.save(1);
            sixRoomsAndAnHour(restored);
            restored.restore(1);
            asIfNewlyLoaded(restored, text);
            Check.sentence("Makes everything as in a new object, and then as the text tells");
            MixerStation loaded = Check.station(text);
            sixRoomsAndAnHour(loaded);
            loaded.heatFor(240);
            loaded.load();
            asIfNewlyLoaded(loaded, text);
        }
    }

    private static int sixRoomsAndAnHour(MixerStation x) {
        int actions = 0;
        while (x.about(0) < 6) {
            x.addRoom(9, 15, 9, 9);
            actions++;
        }
        for (int i = 0; i < 6; i++) {
            x.window(i, true);
        }
        x.pass(60);
        Check.isTrue("the last room had comfort", x.room(5, 4) > 0);
        return actions + 7;
    }

    private static void asIfNewlyLoaded(MixerStation x, String text) {
        MixerStation due = Check.station(text);
        int rooms = due.about(0);
        String name = " of " + rooms + " rooms";
        for (int way = 0; way <= 99; way++) {
            int sum = x.moved(way / 10, way % 10);
            Check.due("moved(" + way / 10 + ", " + way % 10 + ")" + name, sum, due.moved(way / 10, way % 10));
        }
        Check.isTrue("the picture" + name, Check.picture(x).equals(Check.picture(due)));
        Check.due("leastPower(60)" + name, x.leastPower(60), due.leastPower(60));
        Check.due("bestSlope(60)" + name, x.bestSlope(60), due.bestSlope(60));
        Check.due("simulate(1, 20)" + name, x.simulate(1, 20), due.simulate(1, 20));
        if (rooms > 0) {
            Check.due("window(0, true)" + name, x.window(0, true), 1);
            due.window(0, true);
        }
        Check.due("pass(60)" + name, x.pass(60), due.pass(60));
        Check.due("about(10)" + name, x.about(10), due.about(10));
        Check.due("about(11)" + name, x.about(11), due.about(11));
        Check.due("about(12)" + name, x.about(12), due.about(12));
        Check.due("place(1, 0)" + name, x.place(1, 0), due.place(1, 0));
    }

    private static void fourteenStates() {
        Check.sentence("At most 14 states are remembered; when one more is remembered, the oldest one is forgotten.");
        for (int actions = 0; actions <= 45; actions++) {
            MixerStation x = new MixerStation();
            x.set(0, 100);
            x.save(0);
            x.restore(0);
            for (int k = 1; k <= actions; k++) {
                x.set(0, 100 + k);
            }
            int remembered = Math.min(14, actions);
            for (int k = 1; k <= remembered; k++) {
                Check.due("undo() " + k + " behind " + actions, x.undo(), remembered - k);
                Check.due("setting(0)", x.setting(0), 100 + actions - k);
            }
            Check.thrown("undo() of none behind " + actions, Check.STATE, x::undo);
            Check.due("setting(0)", x.setting(0), 100 + actions - remembered);
        }
    }

    // Full, partly undone, and full again.
    private static void fourteenStatesAgain() {
        Check.sentence("when one more is remembered, the oldest one is forgotten.");
        for (int undone = 1; undone <= 13; undone++) {
            MixerStation x = new MixerStation();
            for (int k = 1; k <= 17; k++) {
                x.set(0, k);
            }
            for (int k = 0; k < undone; k++) {
                x.undo();
            }
            int here = 17 - undone;
            Check.due("setting(0)", x.setting(0), here);
            for (int k = 1; k <= undone + 1; k++) {
                x.set(0, 100 + k);
            }
            for (int k = undone; k >= 0; k--) {
                Check.due("undo()", x.undo(), 13 - undone + k);
                Check.due("setting(0)", x.setting(0), k == 0 ? here : 100 + k);
            }
            for (int k = 1; k <= 13 - undone; k++) {
                Check.due("undo() further", x.undo(), 13 - undone - k);
                Check.due("setting(0)", x.setting(0), here - k);
            }
            Check.thrown("undo() of none", Check.STATE, x::undo);
        }
    }

    private static void refusedCallsAreNoActions() {
        Check.sentence("A call that throws an exception changes nothing.");
        MixerStation x = sixRooms();
        for (int k = 1; k <= 14; k++) {
            x.set(0, k);
        }
        Check.thrown("addRoom", Check.STATE, () -> x.addRoom(1, 10, 1, 0));
        Check.thrown("addRoom", Check.ARGUMENT, () -> x.addRoom(1, 10, 1, 10));
        Check.thrown("setRoom", Check.INDEX, () -> x.setRoom(6, 0, 10));
        Check.thrown("setRoom", Check.ARGUMENT, () -> x.setRoom(0, 0, 9));
        Check.thrown("window", Check.INDEX, () -> x.window(6, true));
        Check.thrown("set", Check.ARGUMENT, () -> x.set(9, 0));
        Check.thrown("outside", Check.ARGUMENT, () -> x.outside(41));
        Check.thrown("pass", Check.ARGUMENT, () -> x.pass(61));
        Check.thrown("save", Check.INDEX, () -> x.save(2));
        Check.thrown("restore", Check.STATE, () -> x.restore(1));
        Check.thrown("runScript", Check.ARGUMENT, () -> x.runScript(0, 1060));
        for (int left = 13; left >= 0; left--) {
            Check.due("undo()", x.undo(), left);
            Check.due("setting(0)", x.setting(0), left == 0 ? 60 : left);
        }
        Check.thrown("undo()", Check.STATE, x::undo);
    }
}
