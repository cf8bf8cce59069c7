/** A heating station with a three way mixing valve, as ../shared/DOC.md promises it. */
public final class MixerStation {
    public static final int NONE = -99999;

    private static final int MOST_CHARACTERS = 80;
    private static final int MOST_ROOMS = 6;
    private static final int MOST_REMEMBERED = 14;
    private static final int SLOTS = 2;
    private static final int LONGEST_PASS = 60;
    private static final int LONGEST_LOOK = 240;
    private static final int MOST_ROUNDS = 60;
    private static final int ROUND_MINUTES = 10;
    private static final int MOST_COMMANDS = 4;

    private static final int BOILER = 0;
    private static final int LOOP = 1;
    private static final int FIRST_ROOM = 2;
    private static final int HEATED_PLACES = FIRST_ROOM + MOST_ROOMS;
    private static final int OUTSIDE = 8;
    private static final int ELSEWHERE = 9;
    private static final int PLACES = 10;
    // Fuel to the boiler and boiler to loop; for each room from elsewhere, from the loop, to and from the outside.
    private static final int MOST_WAYS = 2 + 4 * MOST_ROOMS;

    private static final int POWER = 0;
    private static final int SETPOINT = 1;
    private static final int MINIMUM_RUN = 2;
    private static final int MINIMUM_REST = 3;
    private static final int SLOPE = 4;
    private static final int SPEED = 5;
    private static final int FLOW = 6;
    private static final int PINCH = 7;
    private static final int SUMMER_LIMIT = 8;
    private static final int SETTINGS = 9;
    private static final int[] LOWEST_SETTINGS = {0, 30, 0, 0, 0, 1, 1, 0, 10};
    private static final int[] HIGHEST_SETTINGS = {200, 80, 30, 30, 30, 50, 20, 60, 30};
    private static final int[] FIRST_SETTINGS = {60, 60, 5, 3, 12, 20, 10, 35, 18};

    private static final int COLDEST_OUTSIDE = -20;
    private static final int HOTTEST_OUTSIDE = 40;
    private static final int FIRST_OUTSIDE = 5;
    private static final int BOILER_CAPACITY = 40;
    private static final int LOOP_CAPACITY = 60;
    private static final int FIRST_DEGREES = 20;
    private static final int FIRST_ROOM_DEGREES = 15;
    private static final int LOWEST_WANTED = 10;
    private static final int HIGHEST_WANTED = 25;
    private static final int MOST_RADIATORS = 9;
    private static final int MOST_LEAK = 9;
    private static final int MOST_TENS = 9;
    private static final int TOO_HOT = 90;
    private static final int HYSTERESIS = 5;
    private static final int HIGHEST_LOOP = 70;
    private static final int MILD = 20;
    private static final int SEASON_MINUTES = 60;
    private static final int BYPASS_MINUTES = 30;
    private static final int FULL_SHARE = 100;
    private static final int PINCHED_TARGET = 20;

    private final char[] text = new char[MOST_CHARACTERS];
    private int textLength;
    private final State state = new State();
    // One copy is used again by every call that only looks ahead: what a run makes is counted.
    private final State copy = new State();
    private final History history = new History();
    private final State[] slots = new State[SLOTS];
    private final boolean[] saved = new boolean[SLOTS];

    public MixerStation() {
        for (int slot = 0; slot < slots.length; slot++) {
            slots[slot] = new State();
        }
    }

    // ---- text

    public int append(int c) throws IllegalArgumentException, IllegalStateException {
        if (c < 0 || c > 255) {
            throw new IllegalArgumentException("a character code is 0 to 255");
        }
        if (textLength < 0 || textLength >= text.length) {
            throw new IllegalStateException("the text is full");
        }
        text[textLength] = (char) c;
        textLength++;
        return textLength;
    }

    public int clearText() {
        int previous = textLength;
        textLength = 0;
        return previous;
    }

    public int errorPosition() {
        StationReader reader = new StationReader(text, textLength);
        return reader.readInto(copy) ? NONE : reader.position;
    }

    public int load() throws IllegalStateException {
        StationReader reader = new StationReader(text, textLength);
        if (!reader.readInto(copy)) {
            throw new IllegalStateException("the text is not a station");
        }
        state.copyFrom(copy);
        history.forgetAll();
        for (int slot = 0; slot < saved.length; slot++) {
            saved[slot] = false;
        }
        return state.roomCount;
    }

    // ---- what there is

    public int about(int what) throws IllegalArgumentException {
        switch (what) {
            case 0: return state.roomCount;
            case 1: return state.minutes;
            case 2: return state.outdoors;
            case 3: return state.burning ? 1 : 0;
            case 4: return state.sinceSwitch;
            case 5: return state.share;
            case 6: return state.summer ? 1 : 0;
            case 7: return state.seasonCounter;
            case 8: return state.loopShouldHave();
            case 9: return state.starts;
            case 10: return state.allHeat();
            case 11: return state.ledger.count;
            case 12: return state.allComfort();
            default: throw new IllegalArgumentException("about what is 0 to 12");
        }
    }

    public int setting(int what) throws IllegalArgumentException {
        if (what < 0 || what >= SETTINGS) {
            throw new IllegalArgumentException("a setting is 0 to 8");
        }
        return state.settingOf(what);
    }

    public int place(int p, int what) throws IndexOutOfBoundsException, IllegalArgumentException {
        if (!state.hasPlace(p)) {
            throw new IndexOutOfBoundsException("no such place with heat");
        }
        switch (what) {
            case 0: return state.heatOf(p);
            case 1: return state.degrees(p);
            case 2: return state.capacityOf(p);
            default: throw new IllegalArgumentException("what of a place is 0 to 2");
        }
    }

    public int room(int i, int what) throws IndexOutOfBoundsException, IllegalArgumentException {
        if (!state.hasRoom(i)) {
            throw new IndexOutOfBoundsException("no such room");
        }
        Room room = state.rooms[i];
        switch (what) {
            case 0: return room.wanted;
            case 1: return room.radiators;
            case 2: return room.leak;
            case 3: return room.open ? 1 : 0;
            case 4: return room.comfort;
            case 5: return room.cold;
            case 6: return room.warm;
            default: throw new IllegalArgumentException("what of a room is 0 to 6");
        }
    }

    public int moved(int from, int to) throws IllegalArgumentException {
        if (from < 0 || from >= PLACES || to < 0 || to >= PLACES) {
            throw new IllegalArgumentException("a place is 0 to 9");
        }
        return state.ledger.sumBetween(from, to);
    }

    public int way(int k, int what) throws IndexOutOfBoundsException, IllegalArgumentException {
        if (!state.ledger.hasWay(k)) {
            throw new IndexOutOfBoundsException("no such way");
        }
        switch (what) {
            case 0: return state.ledger.from[k];
            case 1: return state.ledger.to[k];
            case 2: return state.ledger.sum[k];
            default: throw new IllegalArgumentException("what of a way is 0 to 2");
        }
    }

    // ---- actions

    public int addRoom(int tens, int wanted, int radiators, int leak)
            throws IllegalArgumentException, IllegalStateException {
        if (tens < 1 || tens > MOST_TENS || !wantedAllowed(wanted)
                || !radiatorsAllowed(radiators) || !leakAllowed(leak)) {
            throw new IllegalArgumentException("a number of the new room is out of its range");
        }
        if (state.isFull()) {
            throw new IllegalStateException("there are 6 rooms");
        }
        history.remember(state);
        state.buildRoom(tens, wanted, radiators, leak);
        return state.roomCount - 1;
    }

    public int setRoom(int i, int what, int v) throws IndexOutOfBoundsException, IllegalArgumentException {
        if (!state.hasRoom(i)) {
            throw new IndexOutOfBoundsException("no such room");
        }
        if (!roomNumberAllowed(what, v)) {
            throw new IllegalArgumentException("what or the new number is out of its range");
        }
        history.remember(state);
        return state.rooms[i].change(what, v);
    }

    public int window(int i, boolean open) throws IndexOutOfBoundsException {
        if (!state.hasRoom(i)) {
            throw new IndexOutOfBoundsException("no such room");
        }
        history.remember(state);
        state.rooms[i].open = open;
        return state.openWindows();
    }

    public int set(int what, int v) throws IllegalArgumentException {
        if (!settingAllowed(what, v)) {
            throw new IllegalArgumentException("what or the new setting is out of its range");
        }
        history.remember(state);
        int previous = state.settingOf(what);
        state.changeSetting(what, v);
        return previous;
    }

    public int outside(int degrees) throws IllegalArgumentException {
        if (!outsideAllowed(degrees)) {
            throw new IllegalArgumentException("the temperature outside is -20 to 40");
        }
        history.remember(state);
        int previous = state.outdoors;
        state.outdoors = degrees;
        return previous;
    }

    public int pass(int minutes) throws IllegalArgumentException {
        if (!passAllowed(minutes)) {
            throw new IllegalArgumentException("minutes are 1 to 60");
        }
        history.remember(state);
        int before = state.allComfort();
        state.advance(minutes);
        return state.allComfort() - before;
    }

    public int undo() throws IllegalStateException {
        if (history.isEmpty()) {
            throw new IllegalStateException("no state is remembered");
        }
        history.takeBackInto(state);
        return history.count;
    }

    // ---- what would be, without other changes

    public int ahead(int p, int minutes) throws IndexOutOfBoundsException, IllegalArgumentException {
        if (!state.hasPlace(p)) {
            throw new IndexOutOfBoundsException("no such place with heat");
        }
        if (minutes < 0 || minutes > LONGEST_LOOK) {
            throw new IllegalArgumentException("minutes are 0 to 240");
        }
        copy.copyFrom(state);
        copy.advance(minutes);
        return copy.degrees(p);
    }

    public int minutesTo(int i) throws IndexOutOfBoundsException {
        if (!state.hasRoom(i)) {
            throw new IndexOutOfBoundsException("no such room");
        }
        copy.copyFrom(state);
        for (int minute = 0; minute < LONGEST_LOOK; minute++) {
            if (copy.isAsWarmAsWanted(i)) {
                return minute;
            }
            copy.advance(1);
        }
        return copy.isAsWarmAsWanted(i) ? LONGEST_LOOK : NONE;
    }

    public int whyOff() {
        copy.copyFrom(state);
        copy.turnSeason();
        copy.runBoiler();
        if (copy.burning) {
            return 0;
        }
        if (copy.summer) {
            return 1;
        }
        if (copy.degrees(BOILER) >= copy.settingOf(SETPOINT)) {
            return 2;
        }
        return copy.settingOf(POWER) == 0 ? 3 : 4;
    }

    public int whyShare() {
        copy.copyFrom(state);
        copy.turnSeason();
        copy.runBoiler();
        copy.moveValve();
        if (copy.share == FULL_SHARE) {
            return 0;
        }
        if (copy.summer) {
            return 1;
        }
        if (copy.freeTarget() == 0) {
            return 2;
        }
        if (copy.isPinched() && copy.freeTarget() > PINCHED_TARGET) {
            return 3;
        }
        // A pinched boiler has a target of 20 or less here.
        return copy.isPinched() || copy.freeTarget() < FULL_SHARE ? 4 : 5;
    }

    public int bestSlope(int minutes) throws IllegalArgumentException {
        if (minutes < 1 || minutes > LONGEST_LOOK) {
            throw new IllegalArgumentException("minutes are 1 to 240");
        }
        if (state.roomCount == 0) {
            return NONE;
        }
        int best = NONE;
        int most = -1;
        for (int slope = lowestSetting(SLOPE); slope <= highestSetting(SLOPE); slope++) {
            copy.copyFrom(state);
            copy.changeSetting(SLOPE, slope);
            copy.advance(minutes);
            // The comfort before now is the same for every slope, so it need not be taken off.
            int comfort = copy.allComfort();
            if (comfort > most) {
                most = comfort;
                best = slope;
            }
        }
        return best;
    }

    public int leastPower(int minutes) throws IllegalArgumentException {
        if (minutes < 0 || minutes > LONGEST_LOOK) {
            throw new IllegalArgumentException("minutes are 0 to 240");
        }
        for (int power = lowestSetting(POWER); power <= highestSetting(POWER); power += 10) {
            copy.copyFrom(state);
            copy.changeSetting(POWER, power);
            if (allRoomsGetWarm(copy, minutes)) {
                return power;
            }
        }
        return NONE;
    }

    public int heatFor(int minutes) throws IllegalArgumentException {
        if (minutes < 0 || minutes > LONGEST_LOOK) {
            throw new IllegalArgumentException("minutes are 0 to 240");
        }
        copy.copyFrom(state);
        copy.advance(minutes);
        return copy.heatMade() - state.heatMade();
    }

    // ---- scripts, simulations

    public int runScript(int n, long script) throws IllegalArgumentException {
        if (n < 1 || n > MOST_COMMANDS) {
            throw new IllegalArgumentException("a script has 1 to 4 commands");
        }
        if (script < 0 || script > longestScript(n)) {
            throw new IllegalArgumentException("the script does not have 4 digits for each command");
        }
        copy.copyFrom(state);
        for (int index = 0; index < n; index++) {
            if (!commandSucceeds(copy, groupAt(n, script, index))) {
                return index;
            }
        }
        return NONE;
    }

    public long simulate(long seed, int m) throws IllegalArgumentException {
        if (m < 1 || m > MOST_ROUNDS) {
            throw new IllegalArgumentException("rounds are 1 to 60");
        }
        copy.copyFrom(state);
        long x = seed;
        for (int round = 0; round < m; round++) {
            x = x * 6364136223846793005L + 1442695040888963407L;
            int r = (int) (x >>> 33);
            copy.outdoors = r % 61 - 20;
            if (copy.roomCount > 0) {
                copy.turnWindow(r / 64 % copy.roomCount, r / 512 % 4 == 0);
            }
            copy.advance(ROUND_MINUTES);
        }
        long comfort = copy.allComfort() - state.allComfort();
        return 1000000L * comfort + (copy.heatMade() - state.heatMade());
    }

    // ---- save slots

    public int save(int slot) throws IndexOutOfBoundsException {
        if (slot < 0 || slot >= slots.length || slot >= saved.length) {
            throw new IndexOutOfBoundsException("a save slot is 0 or 1");
        }
        slots[slot].copyFrom(state);
        saved[slot] = true;
        return state.minutes;
    }

    public int restore(int slot) throws IndexOutOfBoundsException, IllegalStateException {
        if (slot < 0 || slot >= slots.length || slot >= saved.length) {
            throw new IndexOutOfBoundsException("a save slot is 0 or 1");
        }
        if (!saved[slot]) {
            throw new IllegalStateException("nothing has been saved in this slot");
        }
        state.copyFrom(slots[slot]);
        history.forgetAll();
        return state.minutes;
    }

    // ---- ranges

    // A setting that does not exist gets the empty range 1 to 0, so that no number is allowed for it.
    private static int lowestSetting(int what) {
        return what >= 0 && what < LOWEST_SETTINGS.length ? LOWEST_SETTINGS[what] : 1;
    }

    private static int highestSetting(int what) {
        return what >= 0 && what < HIGHEST_SETTINGS.length ? HIGHEST_SETTINGS[what] : 0;
    }

    private static boolean settingAllowed(int what, int v) {
        return v >= lowestSetting(what) && v <= highestSetting(what);
    }

    private static boolean outsideAllowed(int degrees) {
        return degrees >= COLDEST_OUTSIDE && degrees <= HOTTEST_OUTSIDE;
    }

    private static boolean passAllowed(int minutes) {
        return minutes >= 1 && minutes <= LONGEST_PASS;
    }

    private static boolean wantedAllowed(int wanted) {
        return wanted >= LOWEST_WANTED && wanted <= HIGHEST_WANTED;
    }

    private static boolean radiatorsAllowed(int radiators) {
        return radiators >= 1 && radiators <= MOST_RADIATORS;
    }

    private static boolean leakAllowed(int leak) {
        return leak >= 0 && leak <= MOST_LEAK;
    }

    private static boolean roomNumberAllowed(int what, int v) {
        switch (what) {
            case 0: return wantedAllowed(v);
            case 1: return radiatorsAllowed(v);
            case 2: return leakAllowed(v);
            default: return false;
        }
    }

    // ---- helpers of the looks ahead and the scripts

    private static boolean allRoomsGetWarm(State future, int minutes) {
        int all = (1 << future.roomCount) - 1;
        int warm = future.warmRooms();
        for (int minute = 0; minute < minutes && warm != all; minute++) {
            future.advance(1);
            warm |= future.warmRooms();
        }
        return warm == all;
    }

    private static long longestScript(int n) {
        long limit = 1;
        for (int k = 0; k < n; k++) {
            limit *= 10000;
        }
        return limit - 1;
    }

    private static int groupAt(int n, long script, int index) {
        long rest = script;
        for (int behind = index + 1; behind < n; behind++) {
            rest /= 10000;
        }
        return (int) (rest % 10000);
    }

    private static boolean commandSucceeds(State on, int group) {
        int kind = group / 1000;
        int second = group / 100 % 10;
        int number = group % 100;
        switch (kind) {
            case 1:
                if (second != 0 || !passAllowed(number)) {
                    return false;
                }
                on.advance(number);
                return true;
            case 2: return second <= 1 && outsideCommand(on, second == 0 ? number : -number);
            case 3: return settingCommand(on, second, number);
            case 4: return number <= 1 && windowCommand(on, second, number == 1);
            case 5: return wantedCommand(on, second, number);
            case 6: return on.hasPlace(second) && on.degrees(second) >= number;
            case 7: return second == 0 && on.share >= number;
            case 8: return on.hasRoom(second) && on.rooms[second].comfort >= number;
            case 9: return second == 0 && number <= 1 && on.burning == (number == 1);
            default: return false;
        }
    }

    private static boolean outsideCommand(State on, int degrees) {
        if (!outsideAllowed(degrees)) {
            return false;
        }
        on.outdoors = degrees;
        return true;
    }

    private static boolean settingCommand(State on, int what, int v) {
        if (!settingAllowed(what, v)) {
            return false;
        }
        on.changeSetting(what, v);
        return true;
    }

    private static boolean windowCommand(State on, int i, boolean open) {
        if (!on.hasRoom(i)) {
            return false;
        }
        on.turnWindow(i, open);
        return true;
    }

    private static boolean wantedCommand(State on, int i, int wanted) {
        if (!on.hasRoom(i) || !wantedAllowed(wanted)) {
            return false;
        }
        on.rooms[i].wanted = wanted;
        return true;
    }

    /** What a room has besides its heat and its capacity. */
    private static final class Room {
        int wanted;
        int radiators;
        int leak;
        boolean open;
        int comfort;
        int cold;
        int warm;

        void copyFrom(Room other) {
            wanted = other.wanted;
            radiators = other.radiators;
            leak = other.leak;
            open = other.open;
            comfort = other.comfort;
            cold = other.cold;
            warm = other.warm;
        }

        void begin(int firstWanted, int firstRadiators, int firstLeak) {
            wanted = firstWanted;
            radiators = firstRadiators;
            leak = firstLeak;
            open = false;
            comfort = 0;
            cold = 0;
            warm = 0;
        }

        int change(int what, int v) {
            int previous;
            if (what == 0) {
                previous = wanted;
                wanted = v;
            } else if (what == 1) {
                previous = radiators;
                radiators = v;
            } else {
                previous = leak;
                leak = v;
            }
            return previous;
        }

        void judge(int degrees) {
            if (degrees < wanted - 1) {
                cold++;
            } else if (degrees > wanted + 2) {
                warm++;
            } else {
                comfort++;
            }
        }
    }

    /** The ways along which heat went, in the order in which it first went along them. */
    private static final class Ledger {
        final int[] from = new int[MOST_WAYS];
        final int[] to = new int[MOST_WAYS];
        final int[] sum = new int[MOST_WAYS];
        int count;

        void copyFrom(Ledger other) {
            System.arraycopy(other.from, 0, from, 0, MOST_WAYS);
            System.arraycopy(other.to, 0, to, 0, MOST_WAYS);
            System.arraycopy(other.sum, 0, sum, 0, MOST_WAYS);
            count = other.count;
        }

        boolean hasWay(int k) {
            return k >= 0 && k < count && k < MOST_WAYS;
        }

        void note(int source, int goal, int amount) {
            for (int k = 0; k < count && k < MOST_WAYS; k++) {
                if (from[k] == source && to[k] == goal) {
                    sum[k] += amount;
                    return;
                }
            }
            if (count >= 0 && count < MOST_WAYS) {
                from[count] = source;
                to[count] = goal;
                sum[count] = amount;
                count++;
            }
        }

        int sumBetween(int source, int goal) {
            for (int k = 0; k < count && k < MOST_WAYS; k++) {
                if (from[k] == source && to[k] == goal) {
                    return sum[k];
                }
            }
            return 0;
        }
    }

    /** Everything but the text, the save slots and the remembered states. */
    private static final class State {
        int minutes;
        int outdoors;
        boolean burning;
        int sinceSwitch;
        int starts;
        int share;
        boolean summer;
        int seasonCounter;
        int roomCount;
        final int[] settings = new int[SETTINGS];
        final int[] heat = new int[HEATED_PLACES];
        final int[] capacity = new int[HEATED_PLACES];
        final Room[] rooms = new Room[MOST_ROOMS];
        final Ledger ledger = new Ledger();

        State() {
            for (int i = 0; i < rooms.length; i++) {
                rooms[i] = new Room();
            }
            beginAnew();
        }

        void beginAnew() {
            minutes = 0;
            outdoors = FIRST_OUTSIDE;
            burning = false;
            sinceSwitch = 0;
            starts = 0;
            share = 0;
            summer = false;
            seasonCounter = 0;
            roomCount = 0;
            ledger.count = 0;
            System.arraycopy(FIRST_SETTINGS, 0, settings, 0, SETTINGS);
            capacity[BOILER] = BOILER_CAPACITY;
            heat[BOILER] = BOILER_CAPACITY * FIRST_DEGREES;
            capacity[LOOP] = LOOP_CAPACITY;
            heat[LOOP] = LOOP_CAPACITY * FIRST_DEGREES;
        }

        void copyFrom(State other) {
            minutes = other.minutes;
            outdoors = other.outdoors;
            burning = other.burning;
            sinceSwitch = other.sinceSwitch;
            starts = other.starts;
            share = other.share;
            summer = other.summer;
            seasonCounter = other.seasonCounter;
            roomCount = other.roomCount;
            ledger.copyFrom(other.ledger);
            System.arraycopy(other.settings, 0, settings, 0, SETTINGS);
            System.arraycopy(other.heat, 0, heat, 0, HEATED_PLACES);
            System.arraycopy(other.capacity, 0, capacity, 0, HEATED_PLACES);
            for (int i = 0; i < roomCount && i < MOST_ROOMS; i++) {
                rooms[i].copyFrom(other.rooms[i]);
            }
        }

        boolean hasRoom(int i) {
            return i >= 0 && i < roomCount && i < MOST_ROOMS;
        }

        boolean hasPlace(int p) {
            return p == BOILER || p == LOOP || hasRoom(p - FIRST_ROOM);
        }

        boolean isFull() {
            return roomCount >= MOST_ROOMS;
        }

        int settingOf(int what) {
            return what >= 0 && what < SETTINGS ? settings[what] : 0;
        }

        void changeSetting(int what, int v) {
            if (what >= 0 && what < SETTINGS) {
                settings[what] = v;
            }
        }

        void turnWindow(int i, boolean open) {
            if (hasRoom(i)) {
                rooms[i].open = open;
            }
        }

        void buildRoom(int tens, int wanted, int radiators, int leak) {
            int i = roomCount;
            int p = FIRST_ROOM + i;
            if (i < 0 || i >= MOST_ROOMS) {
                return;
            }
            rooms[i].begin(wanted, radiators, leak);
            capacity[p] = 10 * tens;
            heat[p] = 0;
            roomCount++;
            move(ELSEWHERE, p, FIRST_ROOM_DEGREES * capacity[p]);
        }

        int heatOf(int p) {
            return p >= 0 && p < HEATED_PLACES ? heat[p] : 0;
        }

        int capacityOf(int p) {
            return p >= 0 && p < HEATED_PLACES ? capacity[p] : 0;
        }

        int degrees(int p) {
            if (p < 0 || p >= HEATED_PLACES || capacity[p] <= 0) {
                return 0;
            }
            return Math.floorDiv(heat[p], capacity[p]);
        }

        int allHeat() {
            int sum = 0;
            for (int p = 0; p < FIRST_ROOM + roomCount && p < HEATED_PLACES; p++) {
                sum += heat[p];
            }
            return sum;
        }

        int allComfort() {
            int sum = 0;
            for (int i = 0; i < roomCount && i < MOST_ROOMS; i++) {
                sum += rooms[i].comfort;
            }
            return sum;
        }

        int openWindows() {
            int sum = 0;
            for (int i = 0; i < roomCount && i < MOST_ROOMS; i++) {
                sum += rooms[i].open ? 1 : 0;
            }
            return sum;
        }

        int heatMade() {
            return ledger.sumBetween(ELSEWHERE, BOILER);
        }

        boolean isAsWarmAsWanted(int i) {
            return hasRoom(i) && degrees(FIRST_ROOM + i) >= rooms[i].wanted;
        }

        // One bit for each room, so that rooms can be warm at different minutes without a row being made.
        int warmRooms() {
            int bits = 0;
            for (int i = 0; i < roomCount && i < MOST_ROOMS; i++) {
                if (isAsWarmAsWanted(i)) {
                    bits |= 1 << i;
                }
            }
            return bits;
        }

        int loopShouldHave() {
            if (outdoors >= MILD) {
                return MILD;
            }
            return Math.min(HIGHEST_LOOP, MILD + settingOf(SLOPE) * (MILD - outdoors) / 10);
        }

        void advance(int count) {
            for (int k = 0; k < count; k++) {
                turnSeason();
                runBoiler();
                moveValve();
                mix();
                heatRooms();
                leakRooms();
                judgeRooms();
                minutes++;
                sinceSwitch++;
            }
        }

        void turnSeason() {
            boolean mild = outdoors >= settingOf(SUMMER_LIMIT);
            seasonCounter = mild != summer ? seasonCounter + 1 : 0;
            if (seasonCounter >= SEASON_MINUTES) {
                summer = !summer;
                seasonCounter = 0;
            }
        }

        void runBoiler() {
            if (burning) {
                if (mustStop()) {
                    burning = false;
                    sinceSwitch = 0;
                }
            } else if (mayStart()) {
                burning = true;
                sinceSwitch = 0;
                starts++;
            }
            if (burning) {
                move(ELSEWHERE, BOILER, settingOf(POWER));
            }
        }

        private boolean mustStop() {
            int degrees = degrees(BOILER);
            if (degrees >= TOO_HOT) {
                return true;
            }
            return sinceSwitch >= settingOf(MINIMUM_RUN)
                    && (summer || degrees >= settingOf(SETPOINT) + HYSTERESIS);
        }

        private boolean mayStart() {
            return sinceSwitch >= settingOf(MINIMUM_REST) && !summer
                    && settingOf(POWER) != 0 && degrees(BOILER) < settingOf(SETPOINT);
        }

        void moveValve() {
            if (summer) {
                share = minutes % BYPASS_MINUTES == 0 ? FULL_SHARE : 0;
                return;
            }
            int target = freeTarget();
            if (isPinched()) {
                target = Math.min(PINCHED_TARGET, target);
            }
            int speed = settingOf(SPEED);
            share = target > share ? Math.min(target, share + speed) : Math.max(target, share - speed);
        }

        boolean isPinched() {
            return degrees(BOILER) < settingOf(PINCH);
        }

        // What the target would be if the boiler were never too cold.
        int freeTarget() {
            int missing = loopShouldHave() - degrees(LOOP);
            return Math.max(0, Math.min(FULL_SHARE, 10 * missing));
        }

        private void mix() {
            int difference = degrees(BOILER) - degrees(LOOP);
            if (difference > 0) {
                move(BOILER, LOOP, settingOf(FLOW) * share * difference / 100);
            }
        }

        private void heatRooms() {
            for (int i = 0; i < roomCount && i < MOST_ROOMS; i++) {
                int degrees = degrees(FIRST_ROOM + i);
                int difference = degrees(LOOP) - degrees;
                if (degrees < rooms[i].wanted && difference > 0) {
                    move(LOOP, FIRST_ROOM + i, Math.max(1, rooms[i].radiators * difference / 4));
                }
            }
        }

        private void leakRooms() {
            for (int i = 0; i < roomCount && i < MOST_ROOMS; i++) {
                int leak = rooms[i].open ? 3 * rooms[i].leak : rooms[i].leak;
                int loss = Math.floorDiv(leak * (degrees(FIRST_ROOM + i) - outdoors), 8);
                move(FIRST_ROOM + i, OUTSIDE, loss);
                move(OUTSIDE, FIRST_ROOM + i, -loss);
            }
        }

        private void judgeRooms() {
            for (int i = 0; i < roomCount && i < MOST_ROOMS; i++) {
                rooms[i].judge(degrees(FIRST_ROOM + i));
            }
        }

        // An amount that is not positive is no way, so the callers need not look at it.
        private void move(int from, int to, int amount) {
            if (amount <= 0) {
                return;
            }
            addHeat(from, -amount);
            addHeat(to, amount);
            ledger.note(from, to, amount);
        }

        // The outside and elsewhere keep no heat of their own.
        private void addHeat(int p, int amount) {
            if (p >= 0 && p < HEATED_PLACES) {
                heat[p] += amount;
            }
        }
    }

    /** The states before the last actions, the oldest first. */
    private static final class History {
        final State[] states = new State[MOST_REMEMBERED];
        int count;

        History() {
            for (int k = 0; k < states.length; k++) {
                states[k] = new State();
            }
        }

        boolean isEmpty() {
            return count <= 0;
        }

        void forgetAll() {
            count = 0;
        }

        void remember(State now) {
            if (count >= MOST_REMEMBERED) {
                forgetOldest();
            }
            if (count >= 0 && count < MOST_REMEMBERED) {
                states[count].copyFrom(now);
                count++;
            }
        }

        // The oldest one moves behind the others, where its rows are used again.
        private void forgetOldest() {
            State oldest = states[0];
            for (int k = 1; k < MOST_REMEMBERED; k++) {
                states[k - 1] = states[k];
            }
            states[MOST_REMEMBERED - 1] = oldest;
            count = MOST_REMEMBERED - 1;
        }

        void takeBackInto(State now) {
            int last = count - 1;
            if (last >= 0 && last < MOST_REMEMBERED) {
                now.copyFrom(states[last]);
                count = last;
            }
        }
    }

    /** Reads a station from left to right; where it stops is the error position. */
    private static final class StationReader {
        private static final int NO_CHARACTER = -1;
        private static final int NO_NUMBER = -1;

        final char[] text;
        final int length;
        int position;

        StationReader(char[] text, int length) {
            this.text = text;
            this.length = length;
        }

        boolean readInto(State station) {
            station.beginAnew();
            if (!readHead(station)) {
                return false;
            }
            for (int part = 0; part < MOST_CHARACTERS && position < length; part++) {
                if (!readPart(station)) {
                    return false;
                }
            }
            return position == length;
        }

        private boolean readHead(State station) {
            if (here() != 'M') {
                return false;
            }
            position++;
            return readSetting(station, POWER, 3) && readSetting(station, SETPOINT, 2);
        }

        private boolean readPart(State station) {
            int letter = here();
            if (letter == 'r' && !station.isFull()) {
                position++;
                return readRoom(station);
            }
            if (letter == 'o') {
                position++;
                return readOutside(station);
            }
            if (letter == 's') {
                position++;
                int what = readNumber(1, MINIMUM_RUN, SUMMER_LIMIT);
                return what != NO_NUMBER && readSetting(station, what, 2);
            }
            return false;
        }

        private boolean readSetting(State station, int what, int digits) {
            int v = readNumber(digits, lowestSetting(what), highestSetting(what));
            if (v == NO_NUMBER) {
                return false;
            }
            station.changeSetting(what, v);
            return true;
        }

        private boolean readRoom(State station) {
            int tens = readNumber(1, 1, MOST_TENS);
            int wanted = tens == NO_NUMBER ? NO_NUMBER : readNumber(2, LOWEST_WANTED, HIGHEST_WANTED);
            int radiators = wanted == NO_NUMBER ? NO_NUMBER : readNumber(1, 1, MOST_RADIATORS);
            int leak = radiators == NO_NUMBER ? NO_NUMBER : readNumber(1, 0, MOST_LEAK);
            if (leak == NO_NUMBER) {
                return false;
            }
            station.buildRoom(tens, wanted, radiators, leak);
            return true;
        }

        private boolean readOutside(State station) {
            int sign = here();
            if (sign != '+' && sign != '-') {
                return false;
            }
            position++;
            int degrees = sign == '+' ? readNumber(2, 0, HOTTEST_OUTSIDE) : readNumber(2, 1, -COLDEST_OUTSIDE);
            if (degrees == NO_NUMBER) {
                return false;
            }
            station.outdoors = sign == '+' ? degrees : -degrees;
            return true;
        }

        // Stops before the first digit with which no number from low to high can begin.
        private int readNumber(int digits, int low, int high) {
            int unit = 1;
            for (int k = 1; k < digits; k++) {
                unit *= 10;
            }
            int value = 0;
            for (int k = 0; k < digits; k++) {
                int c = here();
                if (c < '0' || c > '9') {
                    return NO_NUMBER;
                }
                int least = value + (c - '0') * unit;
                if (least > high || least + unit - 1 < low) {
                    return NO_NUMBER;
                }
                value = least;
                unit /= 10;
                position++;
            }
            return value;
        }

        private int here() {
            if (position < 0 || position >= length || position >= text.length) {
                return NO_CHARACTER;
            }
            return text[position];
        }
    }
}
