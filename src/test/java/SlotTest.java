/** Promises 28 and 29: save, restore. */
public final class SlotTest {
    public static void main(String[] args) {
        refusals();
        saveAndRestore();
        newRoomBehindRestore();
        Check.end("SlotTest");
    }

    private static void refusals() {
        MixerStation x = Check.station("M06060r32052");
        x.pass(3);
        for (int slot : new int[] {-1, 2, Integer.MAX_VALUE, Integer.MIN_VALUE}) {
            Check.thrownUnchanged(x, "save(" + slot + ")", Check.INDEX, () -> x.save(slot));
            Check.thrownUnchanged(x, "restore(" + slot + ")", Check.INDEX, () -> x.restore(slot));
        }
        Check.thrownUnchanged(x, "restore(0) of nothing", Check.STATE, () -> x.restore(0));
        x.save(0);
        Check.thrownUnchanged(x, "restore(1) of nothing", Check.STATE, () -> x.restore(1));
        Check.due("a refused restore forgets nothing", x.undo(), 0);
    }

    private static void saveAndRestore() {
        MixerStation x = Check.station("M06060r32052");
        x.pass(20);
        Check.due("save(0)", x.save(0), 20);
        String first = Check.picture(x);
        x.addRoom(5, 22, 3, 3);
        x.outside(-11);
        x.window(0, true);
        x.set(0, 200);
        x.pass(60);
        Check.due("save(1)", x.save(1), 80);
        String second = Check.picture(x);
        Check.due("save is no action", x.undo(), 5);
        Check.due("undo leaves the slots", x.restore(0), 20);
        Check.isTrue("restore(0)", Check.picture(x).equals(first));
        Check.thrown("restore forgets the remembered states", Check.STATE, x::undo);
        x.pass(10);
        Check.due("restore(1)", x.restore(1), 80);
        Check.isTrue("restore(1) is the state", Check.picture(x).equals(second));
        x.pass(10);
        x.set(4, 1);
        Check.due("the slot keeps it", x.restore(1), 80);
        Check.isTrue("the slot keeps all of it", Check.picture(x).equals(second));
        Check.due("a slot is written again", x.save(0), 80);
        x.pass(1);
        Check.due("restore(0) of the later one", x.restore(0), 80);
        x.pass(1);
        Check.due("restore is no action: one is remembered", x.undo(), 0);
        Check.due("the text is kept", x.clearText(), 12);
    }

    // What a room had that is gone with restore must not come back with a new one.
    private static void newRoomBehindRestore() {
        MixerStation x = Check.station("M06060r32052");
        x.save(0);
        x.addRoom(1, 16, 5, 9);
        x.pass(5);
        x.window(1, true);
        x.pass(60);
        x.restore(0);
        x.addRoom(9, 20, 1, 2);
        int[] due = {20, 1, 2, 0, 0, 0, 0};
        for (int what = 0; what < due.length; what++) {
            Check.due("room(1, " + what + ") behind restore", x.room(1, what), due[what]);
        }
        Check.due("its heat behind restore", x.place(3, 0), 1350);
    }
}
