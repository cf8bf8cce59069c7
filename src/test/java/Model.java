import java.util.ArrayDeque;
import java.util.ArrayList;
import java.util.Arrays;
import java.util.Deque;
import java.util.LinkedHashMap;
import java.util.List;
import java.util.Map;
import java.util.TreeMap;
import java.util.regex.Matcher;
import java.util.regex.Pattern;

/** The document told a second time, in another way than in the class, so that both can be compared. */
final class Model {
    private static final int NONE = -99999;
    private static final int[][] RANGES = {{0, 200}, {30, 80}, {0, 30}, {0, 30}, {0, 30}, {1, 50}, {1, 20}, {0, 60},
        {10, 30}};
    private static final String PART = "(?:o(?:\\+(?:[0-3][0-9]|40)|-(?:0[1-9]|1[0-9]|20))"
            + "|s(?:[234](?:[0-2][0-9]|30)|5(?:0[1-9]|[1-4][0-9]|50)|6(?:0[1-9]|1[0-9]|20)"
            + "|7(?:[0-5][0-9]|60)|8(?:[12][0-9]|30)))*";
    private static final String ROOM = "r[1-9](?:1[0-9]|2[0-5])[1-9][0-9]";
    private static final Pattern STATION = Pattern.compile(
            "M(?:[01][0-9][0-9]|200)(?:[3-7][0-9]|80)" + PART + "(?:" + ROOM + PART + "){0,6}", Pattern.DOTALL);

    static final class World {
        int minutes;
        int outside = 5;
        boolean on;
        int switchedAt;
        int starts;
        int share;
        boolean summer;
        int counter;
        int[] settings = {60, 60, 5, 3, 12, 20, 10, 35, 18};
        Map<Integer, Integer> heat = new TreeMap<>(Map.of(0, 800, 1, 1200));
        Map<Integer, Integer> capacity = new TreeMap<>(Map.of(0, 40, 1, 60));
        // wanted, radiators, leak, window, comfort, cold, warm
        List<int[]> rooms = new ArrayList<>();
        Map<List<Integer>, Integer> ledger = new LinkedHashMap<>();

        World twin() {
            World w = new World();
            w.minutes = minutes;
            w.outside = outside;
            w.on = on;
            w.switchedAt = switchedAt;
            w.starts = starts;
            w.share = share;
            w.summer = summer;
            w.counter = counter;
            w.settings = settings.clone();
            w.heat = new TreeMap<>(heat);
            w.capacity = new TreeMap<>(capacity);
            for (int[] room : rooms) {
                w.rooms.add(room.clone());
            }
            w.ledger = new LinkedHashMap<>(ledger);
            return w;
        }

        int t(int p) {
            return (int) Math.floor((double) heat.get(p) / capacity.get(p));
        }

        void go(int from, int to, int amount) {
            if (amount > 0) {
                heat.computeIfPresent(from, (p, h) -> h - amount);
                heat.computeIfPresent(to, (p, h) -> h + amount);
                ledger.merge(List.of(from, to), amount, Integer::sum);
            }
        }

        void room(int tens, int wanted, int radiators, int leak) {
            int p = 2 + rooms.size();
            rooms.add(new int[] {wanted, radiators, leak, 0, 0, 0, 0});
            heat.put(p, 0);
            capacity.put(p, 10 * tens);
            go(9, p, 15 * 10 * tens);
        }

        int should() {
            return outside >= 20 ? 20 : (int) Math.min(70, Math.floor(20 + settings[4] * (20 - outside) / 10.0));
        }

        int comfort() {
            return rooms.stream().mapToInt(r -> r[4]).sum();
        }

        int fuel() {
            return ledger.getOrDefault(List.of(9, 0), 0);
        }

        void part1() {
            if (summer ? outside < settings[8] : outside >= settings[8]) {
                counter++;
                if (counter == 60) {
                    summer = !summer;
                    counter = 0;
                }
            } else {
                counter = 0;
            }
        }

        void part2() {
            int since = minutes - switchedAt;
            boolean next = on;
            if (on && (t(0) >= 90 || since >= settings[2] && (summer || t(0) >= settings[1] + 5))) {
                next = false;
            }
            if (!on && since >= settings[3] && !summer && settings[0] > 0 && t(0) < settings[1]) {
                next = true;
                starts++;
            }
            if (next != on) {
                switchedAt = minutes;
            }
            on = next;
            if (on) {
                go(9, 0, settings[0]);
            }
        }

        int missing() {
            return should() - t(1);
        }

        int target() {
            int target = missing() <= 0 ? 0 : missing() >= 10 ? 100 : missing() * 10;
            return t(0) < settings[7] && target > 20 ? 20 : target;
        }

        void part3() {
            if (summer) {
                share = minutes % 30 == 0 ? 100 : 0;
            } else {
                for (int k = 0; k < settings[5]; k++) {
                    share += Integer.signum(target() - share);
                }
            }
        }

        void minute() {
            part1();
            part2();
            part3();
            if (t(0) > t(1)) {
                go(0, 1, settings[6] * share * (t(0) - t(1)) / 100);
            }
            for (int i = 0; i < rooms.size(); i++) {
                if (t(2 + i) < rooms.get(i)[0] && t(1) > t(2 + i)) {
                    go(1, 2 + i, Math.max(1, rooms.get(i)[1] * (t(1) - t(2 + i)) / 4));
                }
            }
            for (int i = 0; i < rooms.size(); i++) {
                int leak = rooms.get(i)[2] * (rooms.get(i)[3] == 1 ? 3 : 1);
                int v = (int) Math.floor(leak * (t(2 + i) - outside) / 8.0);
                if (v > 0) {
                    go(2 + i, 8, v);
                } else {
                    go(8, 2 + i, -v);
                }
            }
            for (int i = 0; i < rooms.size(); i++) {
                int[] r = rooms.get(i);
                r[t(2 + i) < r[0] - 1 ? 5 : t(2 + i) > r[0] + 2 ? 6 : 4]++;
            }
            minutes++;
        }

        World in(int count) {
            for (int k = 0; k < count; k++) {
                minute();
            }
            return this;
        }
    }

    private String text = "";
    private World world = new World();
    private final Deque<World> past = new ArrayDeque<>();
    private final World[] slots = new World[2];

    private static void argument(boolean good) {
        if (!good) {
            throw new IllegalArgumentException();
        }
    }

    private static void index(int i, int size) {
        if (i < 0 || i >= size) {
            throw new IndexOutOfBoundsException();
        }
    }

    private static void state(boolean good) {
        if (!good) {
            throw new IllegalStateException();
        }
    }

    private static boolean in(int v, int low, int high) {
        return low <= v && v <= high;
    }

    private void action() {
        past.addLast(world.twin());
        if (past.size() > 14) {
            past.removeFirst();
        }
    }

    int append(int c) {
        argument(in(c, 0, 255));
        state(text.length() < 80);
        text += (char) c;
        return text.length();
    }

    int clearText() {
        int length = text.length();
        text = "";
        return length;
    }

    int errorPosition() {
        for (int k = 1; k <= text.length(); k++) {
            Matcher m = STATION.matcher(text.substring(0, k));
            if (!m.matches() && !m.hitEnd()) {
                return k - 1;
            }
        }
        return STATION.matcher(text).matches() ? NONE : text.length();
    }

    int load() {
        state(errorPosition() == NONE);
        world = new World();
        world.settings[0] = Integer.parseInt(text.substring(1, 4));
        world.settings[1] = Integer.parseInt(text.substring(4, 6));
        Matcher m = Pattern.compile("r(.)(..)(.)(.)|o(...)|s(.)(..)").matcher(text.substring(6));
        while (m.find()) {
            if (m.group(1) != null) {
                world.room(number(m, 1), number(m, 2), number(m, 3), number(m, 4));
            } else if (m.group(5) != null) {
                world.outside = number(m, 5);
            } else {
                world.settings[number(m, 6)] = number(m, 7);
            }
        }
        past.clear();
        Arrays.fill(slots, null);
        return world.rooms.size();
    }

    private static int number(Matcher m, int group) {
        return Integer.parseInt(m.group(group));
    }

    int about(int what) {
        argument(in(what, 0, 12));
        World w = world;
        return new int[] {w.rooms.size(), w.minutes, w.outside, w.on ? 1 : 0, w.minutes - w.switchedAt, w.share,
            w.summer ? 1 : 0, w.counter, w.should(), w.starts,
            w.heat.values().stream().mapToInt(Integer::intValue).sum(), w.ledger.size(), w.comfort()}[what];
    }

    int setting(int what) {
        argument(in(what, 0, 8));
        return world.settings[what];
    }

    int place(int p, int what) {
        index(p, 2 + world.rooms.size());
        argument(in(what, 0, 2));
        return what == 0 ? world.heat.get(p) : what == 1 ? world.t(p) : world.capacity.get(p);
    }

    int room(int i, int what) {
        index(i, world.rooms.size());
        argument(in(what, 0, 6));
        return world.rooms.get(i)[what];
    }

    int moved(int from, int to) {
        argument(in(from, 0, 9) && in(to, 0, 9));
        return world.ledger.getOrDefault(List.of(from, to), 0);
    }

    int way(int k, int what) {
        index(k, world.ledger.size());
        argument(in(what, 0, 2));
        List<Integer> way = new ArrayList<>(world.ledger.keySet()).get(k);
        return what == 2 ? world.ledger.get(way) : way.get(what);
    }

    int addRoom(int tens, int wanted, int radiators, int leak) {
        argument(in(tens, 1, 9) && in(wanted, 10, 25) && in(radiators, 1, 9) && in(leak, 0, 9));
        state(world.rooms.size() < 6);
        action();
        world.room(tens, wanted, radiators, leak);
        return world.rooms.size() - 1;
    }

    int setRoom(int i, int what, int v) {
        index(i, world.rooms.size());
        argument(what == 0 && in(v, 10, 25) || what == 1 && in(v, 1, 9) || what == 2 && in(v, 0, 9));
        action();
        int old = world.rooms.get(i)[what];
        world.rooms.get(i)[what] = v;
        return old;
    }

    int window(int i, boolean open) {
        index(i, world.rooms.size());
        action();
        world.rooms.get(i)[3] = open ? 1 : 0;
        return (int) world.rooms.stream().filter(r -> r[3] == 1).count();
    }

    int set(int what, int v) {
        argument(in(what, 0, 8) && in(v, RANGES[what][0], RANGES[what][1]));
        action();
        int old = world.settings[what];
        world.settings[what] = v;
        return old;
    }

    int outside(int degrees) {
        argument(in(degrees, -20, 40));
        action();
        int old = world.outside;
        world.outside = degrees;
        return old;
    }

    int pass(int minutes) {
        argument(in(minutes, 1, 60));
        action();
        int before = world.comfort();
        return world.in(minutes).comfort() - before;
    }

    int undo() {
        state(!past.isEmpty());
        world = past.removeLast();
        return past.size();
    }

    int ahead(int p, int minutes) {
        index(p, 2 + world.rooms.size());
        argument(in(minutes, 0, 240));
        return world.twin().in(minutes).t(p);
    }

    private static int firstWarm(World from, int i, int most) {
        World w = from.twin();
        for (int k = 0; k <= most; k++) {
            if (w.t(2 + i) >= w.rooms.get(i)[0]) {
                return k;
            }
            w.minute();
        }
        return NONE;
    }

    int minutesTo(int i) {
        index(i, world.rooms.size());
        return firstWarm(world, i, 240);
    }

    int whyOff() {
        World w = world.twin();
        w.part1();
        int degrees = w.t(0);
        w.part2();
        return w.on ? 0 : w.summer ? 1 : degrees >= w.settings[1] ? 2 : w.settings[0] == 0 ? 3 : 4;
    }

    int whyShare() {
        World w = world.twin();
        w.part1();
        w.part2();
        w.part3();
        if (w.share == 100) {
            return 0;
        }
        if (w.summer) {
            return 1;
        }
        if (w.t(1) >= w.should()) {
            return 2;
        }
        if (w.t(0) < w.settings[7] && w.missing() > 2) {
            return 3;
        }
        return w.target() < 100 ? 4 : 5;
    }

    int bestSlope(int minutes) {
        argument(in(minutes, 1, 240));
        int best = NONE;
        int most = world.rooms.isEmpty() ? Integer.MAX_VALUE : Integer.MIN_VALUE;
        for (int slope = 0; slope <= 30; slope++) {
            World w = world.twin();
            w.settings[4] = slope;
            int got = w.in(minutes).comfort() - world.comfort();
            if (got > most) {
                most = got;
                best = slope;
            }
        }
        return best;
    }

    int leastPower(int minutes) {
        argument(in(minutes, 0, 240));
        for (int power = 0; power <= 200; power += 10) {
            World w = world.twin();
            w.settings[0] = power;
            boolean all = true;
            for (int i = 0; i < w.rooms.size() && all; i++) {
                all = firstWarm(w, i, minutes) != NONE;
            }
            if (all) {
                return power;
            }
        }
        return NONE;
    }

    int heatFor(int minutes) {
        argument(in(minutes, 0, 240));
        return world.twin().in(minutes).fuel() - world.fuel();
    }

    int runScript(int n, long script) {
        argument(in(n, 1, 4) && script >= 0);
        String digits = String.format("%0" + 4 * n + "d", script);
        argument(digits.length() == 4 * n);
        Model copy = new Model();
        copy.world = world.twin();
        for (int k = 0; k < n; k++) {
            boolean good;
            try {
                good = copy.command(digits.substring(4 * k, 4 * k + 4));
            } catch (IndexOutOfBoundsException | IllegalArgumentException e) {
                good = false;
            }
            if (!good) {
                return k;
            }
        }
        return NONE;
    }

    private boolean command(String c) {
        int d = c.charAt(1) - '0';
        int xy = Integer.parseInt(c.substring(2));
        if (c.matches("10..")) {
            return pass(xy) >= 0;
        }
        if (c.matches("2[01]..")) {
            return outside(d == 0 ? xy : -xy) > NONE;
        }
        if (c.matches("3...")) {
            return set(d, xy) > NONE;
        }
        if (c.matches("4.0[01]")) {
            return window(d, xy == 1) > NONE;
        }
        if (c.matches("5...")) {
            return setRoom(d, 0, xy) > NONE;
        }
        if (c.matches("6...")) {
            return place(d, 1) >= xy;
        }
        if (c.matches("8...")) {
            return room(d, 4) >= xy;
        }
        return c.matches("70..") && world.share >= xy || c.matches("900[01]") && world.on == (xy == 1);
    }

    long simulate(long seed, int m) {
        argument(in(m, 1, 60));
        Model copy = new Model();
        copy.world = world.twin();
        long x = seed;
        for (int k = 0; k < m; k++) {
            x = x * 6364136223846793005L + 1442695040888963407L;
            int r = (int) (x >>> 33);
            copy.outside(r % 61 - 20);
            if (!world.rooms.isEmpty()) {
                copy.window(r / 64 % world.rooms.size(), r / 512 % 4 == 0);
            }
            copy.pass(10);
        }
        return 1000000L * (copy.world.comfort() - world.comfort()) + copy.world.fuel() - world.fuel();
    }

    int save(int slot) {
        index(slot, 2);
        slots[slot] = world.twin();
        return world.minutes;
    }

    int restore(int slot) {
        index(slot, 2);
        state(slots[slot] != null);
        world = slots[slot].twin();
        past.clear();
        return world.minutes;
    }
}
