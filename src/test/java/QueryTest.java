/** Promises 6 to 11: about, setting, place, room, moved, way, with the arguments that they refuse. */
public final class QueryTest {
    public static void main(String[] args) {
        refusals(new MixerStation());
        MixerStation x = Check.station("M08060r32052r91499o-05");
        x.pass(30);
        refusals(x);
        rooms(x);
        places(x);
        ways(x);
        Check.end("QueryTest");
    }

    private static void refusals(MixerStation x) {
        int[] far = {Integer.MIN_VALUE, -1, 13, Integer.MAX_VALUE};
        for (int what : far) {
            Check.thrownUnchanged(x, "about(" + what + ")", Check.ARGUMENT, () -> x.about(what));
            Check.thrownUnchanged(x, "setting(" + what + ")", Check.ARGUMENT, () -> x.setting(what));
            Check.thrownUnchanged(x, "place(0, " + what + ")", Check.ARGUMENT, () -> x.place(0, what));
            Check.thrownUnchanged(x, "place(" + what + ", 0)", Check.INDEX, () -> x.place(what, 0));
            Check.thrownUnchanged(x, "place(" + what + ", 9)", Check.INDEX, () -> x.place(what, 9));
            Check.thrownUnchanged(x, "room(" + what + ", 0)", Check.INDEX, () -> x.room(what, 0));
            Check.thrownUnchanged(x, "room(" + what + ", 7)", Check.INDEX, () -> x.room(what, 7));
            Check.thrownUnchanged(x, "moved(" + what + ", 0)", Check.ARGUMENT, () -> x.moved(what, 0));
            Check.thrownUnchanged(x, "moved(0, " + what + ")", Check.ARGUMENT, () -> x.moved(0, what));
            Check.thrownUnchanged(x, "way(" + what + ", 0)", Check.INDEX, () -> x.way(what, 0));
        }
        Check.thrownUnchanged(x, "setting(9)", Check.ARGUMENT, () -> x.setting(9));
        Check.thrownUnchanged(x, "place(0, 3)", Check.ARGUMENT, () -> x.place(0, 3));
        Check.thrownUnchanged(x, "moved(10, 0)", Check.ARGUMENT, () -> x.moved(10, 0));
        Check.thrownUnchanged(x, "moved(0, 10)", Check.ARGUMENT, () -> x.moved(0, 10));
        Check.thrownUnchanged(x, "moved(10, 10)", Check.ARGUMENT, () -> x.moved(10, 10));
        int rooms = x.about(0);
        Check.thrownUnchanged(x, "room behind the last", Check.INDEX, () -> x.room(rooms, 0));
        Check.thrownUnchanged(x, "place behind the last", Check.INDEX, () -> x.place(2 + rooms, 0));
        int ways = x.about(11);
        Check.thrownUnchanged(x, "way behind the last", Check.INDEX, () -> x.way(ways, 0));
        Check.thrownUnchanged(x, "way behind the last, what 3", Check.INDEX, () -> x.way(ways, 3));
    }

    private static void rooms(MixerStation x) {
        Check.due("room(1, 0)", x.room(1, 0), 14);
        Check.due("room(1, 1)", x.room(1, 1), 9);
        Check.due("room(1, 2)", x.room(1, 2), 9);
        for (int i = 0; i < 2; i++) {
            int room = i;
            Check.due("all minutes of room " + i, x.room(i, 4) + x.room(i, 5) + x.room(i, 6), 30);
            Check.thrownUnchanged(x, "room(i, 7)", Check.ARGUMENT, () -> x.room(room, 7));
            Check.thrownUnchanged(x, "room(i, -1)", Check.ARGUMENT, () -> x.room(room, -1));
        }
        Check.due("about(12)", x.about(12), x.room(0, 4) + x.room(1, 4));
    }

    private static void places(MixerStation x) {
        int sum = 0;
        for (int p = 0; p < 4; p++) {
            Check.due("place(" + p + ", 1)", x.place(p, 1), Math.floorDiv(x.place(p, 0), x.place(p, 2)));
            sum += x.place(p, 0);
        }
        Check.due("about(10)", x.about(10), sum);
        Check.due("place(2, 2)", x.place(2, 2), 30);
        Check.due("place(3, 2)", x.place(3, 2), 90);
        Check.thrownUnchanged(x, "place(3, 3)", Check.ARGUMENT, () -> x.place(3, 3));
        Check.thrownUnchanged(x, "place(8, 0)", Check.INDEX, () -> x.place(8, 0));
        Check.thrownUnchanged(x, "place(9, 0)", Check.INDEX, () -> x.place(9, 0));
    }

    private static void ways(MixerStation x) {
        int[][] due = {{9, 2}, {9, 3}, {1, 2}, {2, 8}, {3, 8}, {0, 1}, {9, 0}, {1, 3}};
        Check.due("about(11)", x.about(11), due.length);
        int[] sums = new int[100];
        for (int k = 0; k < due.length; k++) {
            int way = k;
            Check.due("way(" + k + ", 0)", x.way(k, 0), due[k][0]);
            Check.due("way(" + k + ", 1)", x.way(k, 1), due[k][1]);
            Check.isTrue("way(" + k + ", 2) is positive", x.way(k, 2) > 0);
            Check.thrownUnchanged(x, "way(" + k + ", 3)", Check.ARGUMENT, () -> x.way(way, 3));
            Check.thrownUnchanged(x, "way(" + k + ", -1)", Check.ARGUMENT, () -> x.way(way, -1));
            sums[10 * due[k][0] + due[k][1]] = x.way(k, 2);
        }
        for (int from = 0; from <= 9; from++) {
            for (int to = 0; to <= 9; to++) {
                Check.due("moved(" + from + ", " + to + ")", x.moved(from, to), sums[10 * from + to]);
            }
        }
    }
}
