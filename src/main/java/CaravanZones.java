/**
 * Zones along a road that goes round, written behind pointers by a caravan that goes ahead alone.
 * What each call promises stands in the document; here stands only why something is done as it is.
 */
public final class CaravanZones {
    public static final int UNKNOWN = -1;
    public static final int BAD_VALUE = -2;
    public static final int FULL = -3;
    public static final int NOT_POSSIBLE = -4;
    public static final int NONE = -5;
    public static final int DRY = -6;

    private static final int MIN_ZONES = 2;
    private static final int MAX_ZONES = 8;
    private static final int FIRST_ZONES = 4;
    private static final int MIN_SLOTS = 2;
    private static final int MAX_SLOTS = 12;
    private static final int FIRST_SLOTS = 6;
    private static final int MAX_CELLS = MAX_ZONES * MAX_SLOTS;
    private static final int LOADS = 40;

    private static final int ANY_KIND = 0;
    private static final int HOT_KIND = 1;
    private static final int COLD_KIND = 2;

    private static final int MAX_HEAT = 99;
    private static final int MIN_BOUND = 1;
    private static final int MAX_BOUND = 9;
    private static final int FIRST_BOUND = 3;

    private static final int MAX_BAG = 6;
    private static final int FIRST_BAG = 3;
    private static final int MIN_SKIN = 10;
    private static final int MAX_SKIN = 200;
    private static final int FIRST_SKIN = 60;
    private static final int MAX_STEPS = 24;

    private static final int STEP_COST = 1;
    private static final int WRITE_COST = 1;
    private static final int RESET_COST = 3;

    private static final int NOWHERE = 0;
    private static final int IN_SLOT = 1;
    private static final int IN_BAG = 2;

    private static final int MAX_TEXT = 60;
    private static final int MAX_ORDERS = 30;
    private static final int NO_FAULT = -1;
    private static final int FAULT_BASE = -100;

    private static final int MAX_HISTORY = 4;

    private final World world;
    private final World before;
    private final World snapshot;
    private boolean hasSnapshot;
    private final History history;
    private final Orders orders;

    public CaravanZones() {
        world = new World();
        before = new World();
        snapshot = new World();
        hasSnapshot = false;
        history = new History();
        orders = new Orders();
    }

    // ---- the road

    public int lay(int zones, int slots) {
        before.copyFrom(world);
        return settle(world.layZones(zones, slots));
    }

    public int setKind(int zone, int kind) {
        before.copyFrom(world);
        return settle(world.changeKind(zone, kind));
    }

    public int setWell(int zone, boolean is) {
        before.copyFrom(world);
        return settle(world.changeWell(zone, is));
    }

    public int set(int what, int value) {
        before.copyFrom(world);
        return settle(world.changeSetting(what, value));
    }

    // ---- the caravan

    public int go(int steps) {
        before.copyFrom(world);
        return settle(world.travel(steps));
    }

    public int write(int load) {
        before.copyFrom(world);
        return settle(world.writeAnew(load));
    }

    public int take(int load) {
        before.copyFrom(world);
        return settle(world.takeUp(load));
    }

    public int put(int load) {
        before.copyFrom(world);
        return settle(world.putDown(load));
    }

    public int drop(int load) {
        before.copyFrom(world);
        return settle(world.giveUp(load));
    }

    public int reset() {
        before.copyFrom(world);
        return settle(world.resetHere());
    }

    public int seal() {
        before.copyFrom(world);
        return settle(world.sealHere());
    }

    public int clean() {
        before.copyFrom(world);
        return settle(world.cleanHere());
    }

    public int dusk() {
        before.copyFrom(world);
        return settle(world.endDay());
    }

    // ---- texts

    public int type(char character) {
        return orders.append(character);
    }

    public int clearText() {
        return orders.empty();
    }

    public int perform() {
        int fault = orders.read();
        if (fault != NO_FAULT) {
            return FAULT_BASE - fault;
        }
        before.copyFrom(world);
        int size = orders.size();
        int answer = size;
        for (int i = 0; i < size && answer >= 0; i++) {
            int told = doOrder(orders.letterOf(i), orders.numberOf(i));
            if (told < 0 && told != NONE) {
                answer = told;
            }
        }
        return settle(answer);
    }

    // ---- history

    public int undo() {
        return history.takeLatest(world) ? history.size() : NONE;
    }

    public int keep() {
        snapshot.copyFrom(world);
        hasSnapshot = true;
        return world.road.nextMark;
    }

    public int restore() {
        if (!hasSnapshot) {
            return NONE;
        }
        before.copyFrom(world);
        world.copyFrom(snapshot);
        return settle(world.road.nextMark);
    }

    // ---- what is told

    public int zone(int zone, int what) {
        return Survey.ofZone(world, zone, what);
    }

    public int slot(int zone, int slot, int what) {
        return Survey.ofSlot(world, zone, slot, what);
    }

    public int load(int load, int what) {
        return Survey.ofLoad(world, load, what);
    }

    public int scan(int load) {
        return Survey.latestSlotOf(world, load);
    }

    public int caravan(int what) {
        return Survey.ofCaravan(world, what);
    }

    public int bagAt(int place) {
        return Survey.ofBag(world, place);
    }

    public int waterTo(int zone) {
        return Survey.waterNeededTo(world, zone);
    }

    public int worst() {
        return Survey.zoneToClean(world);
    }

    public int nearestFor(int load) {
        return Survey.nearestZoneFor(world, load);
    }

    public int count(int what) {
        switch (what) {
            case 12: return history.size();
            case 13: return orders.length();
            default: return Survey.ofAll(world, what);
        }
    }

    /** Ends an act: an error takes back whatever was done until it came, so acts may stop anywhere. */
    private int settle(int answer) {
        if (answer < 0) {
            world.copyFrom(before);
        } else {
            history.remember(before);
        }
        return answer;
    }

    private int doOrder(int letter, int number) {
        switch (letter) {
            case 'g': return world.travel(number);
            case 'w': return world.writeAnew(number);
            case 't': return world.takeUp(number);
            case 'p': return world.putDown(number);
            case 'd': return world.giveUp(number);
            case 'r': return world.resetHere();
            case 's': return world.sealHere();
            case 'c': return world.cleanHere();
            default: return NONE;
        }
    }

    /** Numbers in a row. Each index is looked at here, so that no caller can reach out of the array. */
    private static final class Row {
        private final int[] numbers;

        Row(int size) {
            numbers = new int[Math.max(size, 0)];
        }

        int at(int index) {
            return index >= 0 && index < numbers.length ? numbers[index] : 0;
        }

        boolean isSet(int index) {
            return index >= 0 && index < numbers.length && numbers[index] != 0;
        }

        void change(int index, int number) {
            if (index >= 0 && index < numbers.length) {
                numbers[index] = number;
            }
        }

        void fill(int number) {
            for (int i = 0; i < numbers.length; i++) {
                numbers[i] = number;
            }
        }

        void copyFrom(Row other) {
            for (int i = 0; i < numbers.length && i < other.numbers.length; i++) {
                numbers[i] = other.numbers[i];
            }
        }
    }

    /** The zones with their slots. A slot is also called by one number, its cell. */
    private static final class Road {
        private int zones;
        private int slots;
        private int nextMark;
        private int resetsSoFar;
        private final Row pointers = new Row(MAX_ZONES);
        private final Row kinds = new Row(MAX_ZONES);
        private final Row seals = new Row(MAX_ZONES);
        private final Row wells = new Row(MAX_ZONES);
        private final Row resets = new Row(MAX_ZONES);
        private final Row loads = new Row(MAX_CELLS);
        private final Row marks = new Row(MAX_CELLS);

        Road() {
            build(FIRST_ZONES, FIRST_SLOTS);
        }

        void build(int newZones, int newSlots) {
            zones = newZones;
            slots = newSlots;
            pointers.fill(0);
            kinds.fill(ANY_KIND);
            seals.fill(0);
            wells.fill(0);
            wells.change(0, 1);
            resets.fill(0);
        }

        void copyFrom(Road other) {
            zones = other.zones;
            slots = other.slots;
            nextMark = other.nextMark;
            resetsSoFar = other.resetsSoFar;
            pointers.copyFrom(other.pointers);
            kinds.copyFrom(other.kinds);
            seals.copyFrom(other.seals);
            wells.copyFrom(other.wells);
            resets.copyFrom(other.resets);
            loads.copyFrom(other.loads);
            marks.copyFrom(other.marks);
        }

        boolean hasZone(int zone) {
            return zone >= 0 && zone < zones;
        }

        boolean hasSlot(int slot) {
            return slot >= 0 && slot < slots;
        }

        int cellAt(int zone, int slot) {
            return zone * MAX_SLOTS + slot;
        }

        int zoneBehind(int zone) {
            return zone + 1 < zones ? zone + 1 : 0;
        }

        int stepsBetween(int from, int to) {
            return to >= from ? to - from : to - from + zones;
        }

        int freeIn(int zone) {
            return slots - pointers.at(zone);
        }

        int wellCount() {
            return setIn(wells);
        }

        int sealCount() {
            return setIn(seals);
        }

        private int setIn(Row row) {
            int found = 0;
            for (int zone = 0; zone < zones; zone++) {
                if (row.isSet(zone)) {
                    found++;
                }
            }
            return found;
        }

        boolean admits(int zone, boolean hot) {
            int kind = kinds.at(zone);
            return !seals.isSet(zone) && (kind == ANY_KIND || (kind == HOT_KIND) == hot);
        }

        int append(int zone, int load) {
            int slot = pointers.at(zone);
            loads.change(cellAt(zone, slot), load);
            marks.change(cellAt(zone, slot), nextMark);
            nextMark++;
            pointers.change(zone, slot + 1);
            if (slot + 1 >= slots) {
                seals.change(zone, 1);
            }
            return slot;
        }

        void clear(int zone) {
            pointers.change(zone, 0);
            seals.change(zone, 0);
            resets.change(zone, resets.at(zone) + 1);
            resetsSoFar++;
        }
    }

    /** Where each load is and how hot; that a slot is live follows from the cell of its load. */
    private static final class Loads {
        private int bound = FIRST_BOUND;
        private final Row places = new Row(LOADS);
        private final Row cells = new Row(LOADS);
        private final Row heats = new Row(LOADS);

        void copyFrom(Loads other) {
            bound = other.bound;
            places.copyFrom(other.places);
            cells.copyFrom(other.cells);
            heats.copyFrom(other.heats);
        }

        boolean isKnown(int load) {
            return load >= 0 && load < LOADS;
        }

        boolean isIn(int load, int place) {
            return places.at(load) == place;
        }

        boolean liesAt(int load, int cell) {
            return places.at(load) == IN_SLOT && cells.at(load) == cell;
        }

        boolean anyInSlot() {
            for (int load = 0; load < LOADS; load++) {
                if (isIn(load, IN_SLOT)) {
                    return true;
                }
            }
            return false;
        }

        boolean isHot(int load) {
            return heats.at(load) >= bound;
        }

        int hotCount() {
            int found = 0;
            for (int load = 0; load < LOADS; load++) {
                if (isHot(load)) {
                    found++;
                }
            }
            return found;
        }

        void warm(int load) {
            heats.change(load, Math.min(heats.at(load) + 1, MAX_HEAT));
        }

        void cool() {
            for (int load = 0; load < LOADS; load++) {
                heats.change(load, heats.at(load) / 2);
            }
        }

        void moveToSlot(int load, int cell) {
            places.change(load, IN_SLOT);
            cells.change(load, cell);
        }

        void moveToBag(int load) {
            places.change(load, IN_BAG);
        }

        void forget(int load) {
            places.change(load, NOWHERE);
            heats.change(load, 0);
        }
    }

    /** The caravan with its bag and its skin. */
    private static final class Caravan {
        private int at;
        private int water = FIRST_SKIN;
        private int skin = FIRST_SKIN;
        private int bagRoom = FIRST_BAG;
        private int bagSize;
        private int steps;
        private int used;
        private int moved;
        private final Row bag = new Row(MAX_BAG);

        void copyFrom(Caravan other) {
            at = other.at;
            water = other.water;
            skin = other.skin;
            bagRoom = other.bagRoom;
            bagSize = other.bagSize;
            steps = other.steps;
            used = other.used;
            moved = other.moved;
            bag.copyFrom(other.bag);
        }

        boolean pay(int cost) {
            if (water < cost) {
                return false;
            }
            water -= cost;
            used += cost;
            return true;
        }

        void fillSkin() {
            water = skin;
        }

        void resizeSkin(int size) {
            skin = size;
            water = Math.min(water, size);
        }

        int bagSpace() {
            return bagRoom - bagSize;
        }

        void pack(int load) {
            bag.change(bagSize, load);
            bagSize++;
        }

        void unpack(int load) {
            int kept = 0;
            for (int i = 0; i < bagSize; i++) {
                int other = bag.at(i);
                if (other != load) {
                    bag.change(kept, other);
                    kept++;
                }
            }
            bagSize = kept;
        }

        int placeOf(int load) {
            for (int i = 0; i < bagSize; i++) {
                if (bag.at(i) == load) {
                    return i;
                }
            }
            return NONE;
        }
    }

    /**
     * One state: all but the text, the history and the snapshot. Its acts may stop with an error when
     * a part is done already, as the caller brings back the state from before; with NONE nothing is done.
     */
    private static final class World {
        private final Road road = new Road();
        private final Loads loads = new Loads();
        private final Caravan caravan = new Caravan();

        void copyFrom(World other) {
            road.copyFrom(other.road);
            loads.copyFrom(other.loads);
            caravan.copyFrom(other.caravan);
        }

        int layZones(int zones, int slots) {
            if (zones < MIN_ZONES || zones > MAX_ZONES || slots < MIN_SLOTS || slots > MAX_SLOTS) {
                return BAD_VALUE;
            }
            if (loads.anyInSlot()) {
                return NOT_POSSIBLE;
            }
            road.build(zones, slots);
            caravan.at = 0;
            return zones * slots;
        }

        int changeKind(int zone, int kind) {
            if (!road.hasZone(zone)) {
                return UNKNOWN;
            }
            if (kind < ANY_KIND || kind > COLD_KIND) {
                return BAD_VALUE;
            }
            int previous = road.kinds.at(zone);
            if (previous == kind) {
                return NONE;
            }
            road.kinds.change(zone, kind);
            return previous;
        }

        int changeWell(int zone, boolean is) {
            if (!road.hasZone(zone)) {
                return UNKNOWN;
            }
            if (road.wells.isSet(zone) == is) {
                return NONE;
            }
            road.wells.change(zone, is ? 1 : 0);
            if (is && zone == caravan.at) {
                caravan.fillSkin();
            }
            return road.wellCount();
        }

        int changeSetting(int what, int value) {
            switch (what) {
                case 0: return changeBag(value);
                case 1: return changeSkin(value);
                case 2: return changeBound(value);
                default: return BAD_VALUE;
            }
        }

        private int changeBag(int value) {
            if (value < 0 || value > MAX_BAG) {
                return BAD_VALUE;
            }
            if (caravan.bagSize > value) {
                return NOT_POSSIBLE;
            }
            int previous = caravan.bagRoom;
            caravan.bagRoom = value;
            return previous == value ? NONE : previous;
        }

        private int changeSkin(int value) {
            if (value < MIN_SKIN || value > MAX_SKIN) {
                return BAD_VALUE;
            }
            int previous = caravan.skin;
            caravan.resizeSkin(value);
            return previous == value ? NONE : previous;
        }

        private int changeBound(int value) {
            if (value < MIN_BOUND || value > MAX_BOUND) {
                return BAD_VALUE;
            }
            int previous = loads.bound;
            loads.bound = value;
            return previous == value ? NONE : previous;
        }

        int travel(int steps) {
            if (steps < 1 || steps > MAX_STEPS) {
                return BAD_VALUE;
            }
            for (int i = 0; i < steps; i++) {
                if (!stepAhead()) {
                    return DRY;
                }
            }
            return caravan.at;
        }

        private boolean stepAhead() {
            if (!caravan.pay(STEP_COST)) {
                return false;
            }
            caravan.steps++;
            caravan.at = road.zoneBehind(caravan.at);
            if (road.wells.isSet(caravan.at)) {
                caravan.fillSkin();
            }
            return true;
        }

        int writeAnew(int load) {
            if (!loads.isKnown(load)) {
                return UNKNOWN;
            }
            loads.warm(load);
            if (loads.isIn(load, IN_BAG) || !mayBeWritten(load, caravan.at)) {
                return NOT_POSSIBLE;
            }
            return writeHere(load);
        }

        boolean mayBeWritten(int load, int zone) {
            return road.admits(zone, loads.isHot(load));
        }

        /** Writes a load from wherever it is; one that comes out of the bag was moved by that. */
        private int writeHere(int load) {
            if (!caravan.pay(WRITE_COST)) {
                return DRY;
            }
            if (loads.isIn(load, IN_BAG)) {
                caravan.unpack(load);
                caravan.moved++;
            }
            int slot = road.append(caravan.at, load);
            loads.moveToSlot(load, road.cellAt(caravan.at, slot));
            return slot;
        }

        int takeUp(int load) {
            if (!loads.isKnown(load)) {
                return UNKNOWN;
            }
            if (!liesInZone(load, caravan.at)) {
                return NOT_POSSIBLE;
            }
            if (caravan.bagSpace() < 1) {
                return FULL;
            }
            packUp(load);
            return caravan.bagSize;
        }

        private boolean liesInZone(int load, int zone) {
            return loads.isIn(load, IN_SLOT) && loads.cells.at(load) / MAX_SLOTS == zone;
        }

        private void packUp(int load) {
            caravan.pack(load);
            loads.moveToBag(load);
        }

        int putDown(int load) {
            if (!loads.isKnown(load)) {
                return UNKNOWN;
            }
            if (!loads.isIn(load, IN_BAG) || !mayBeWritten(load, caravan.at)) {
                return NOT_POSSIBLE;
            }
            return writeHere(load);
        }

        int giveUp(int load) {
            if (!loads.isKnown(load)) {
                return UNKNOWN;
            }
            int place = loads.places.at(load);
            if (place == NOWHERE) {
                return NONE;
            }
            caravan.unpack(load);
            loads.forget(load);
            return place;
        }

        int resetHere() {
            int written = road.pointers.at(caravan.at);
            if (liveIn(caravan.at) > 0) {
                return NOT_POSSIBLE;
            }
            if (caravan.water < RESET_COST) {
                return DRY;
            }
            if (written == 0 && !road.seals.isSet(caravan.at)) {
                return NONE;
            }
            caravan.pay(RESET_COST);
            road.clear(caravan.at);
            return written;
        }

        int sealHere() {
            if (road.seals.isSet(caravan.at)) {
                return NONE;
            }
            road.seals.change(caravan.at, 1);
            return road.freeIn(caravan.at);
        }

        int endDay() {
            int hotBefore = loads.hotCount();
            loads.cool();
            return hotBefore - loads.hotCount();
        }

        int cleanHere() {
            int zone = caravan.at;
            if (road.pointers.at(zone) == 0) {
                return NONE;
            }
            if (liveIn(zone) > caravan.bagSpace()) {
                return FULL;
            }
            int earlier = caravan.bagSize;
            packAllOf(zone);
            if (!caravan.pay(RESET_COST)) {
                return DRY;
            }
            road.clear(zone);
            int gone = 0;
            while (caravan.bagSize > earlier && gone < road.zones) {
                if (!stepAhead() || !unpackFrom(earlier)) {
                    return DRY;
                }
                gone++;
            }
            return caravan.bagSize > earlier ? NOT_POSSIBLE : gone;
        }

        private void packAllOf(int zone) {
            int written = road.pointers.at(zone);
            for (int slot = 0; slot < written; slot++) {
                if (isLive(zone, slot)) {
                    packUp(road.loads.at(road.cellAt(zone, slot)));
                }
            }
        }

        /** Puts down what it may; the loads that were in the bag earlier stand ahead, and stay there. */
        private boolean unpackFrom(int earlier) {
            int place = earlier;
            for (int left = caravan.bagSize - earlier; left > 0; left--) {
                int load = caravan.bag.at(place);
                if (!mayBeWritten(load, caravan.at)) {
                    place++;
                } else if (writeHere(load) < 0) {
                    return false;
                }
            }
            return true;
        }

        boolean isLive(int zone, int slot) {
            int cell = road.cellAt(zone, slot);
            return loads.liesAt(road.loads.at(cell), cell);
        }

        int liveIn(int zone) {
            int found = 0;
            int written = road.pointers.at(zone);
            for (int slot = 0; slot < written; slot++) {
                if (isLive(zone, slot)) {
                    found++;
                }
            }
            return found;
        }

        int deadIn(int zone) {
            return road.pointers.at(zone) - liveIn(zone);
        }
    }

    /** Answers the questions about a state and changes nothing. */
    private static final class Survey {
        private Survey() {
        }

        static int ofZone(World world, int zone, int what) {
            if (!world.road.hasZone(zone)) {
                return UNKNOWN;
            }
            switch (what) {
                case 0: return world.road.pointers.at(zone);
                case 1: return world.liveIn(zone);
                case 2: return world.deadIn(zone);
                case 3: return world.road.kinds.at(zone);
                case 4: return world.road.seals.at(zone);
                case 5: return world.road.wells.at(zone);
                case 6: return world.road.resets.at(zone);
                case 7: return world.road.stepsBetween(world.caravan.at, zone);
                default: return BAD_VALUE;
            }
        }

        static int ofSlot(World world, int zone, int slot, int what) {
            if (!world.road.hasZone(zone) || !world.road.hasSlot(slot)) {
                return UNKNOWN;
            }
            if (what < 0 || what > 2) {
                return BAD_VALUE;
            }
            if (slot >= world.road.pointers.at(zone)) {
                return NONE;
            }
            switch (what) {
                case 0: return world.road.loads.at(world.road.cellAt(zone, slot));
                case 1: return world.road.marks.at(world.road.cellAt(zone, slot));
                default: return world.isLive(zone, slot) ? 1 : 0;
            }
        }

        static int ofLoad(World world, int load, int what) {
            if (!world.loads.isKnown(load)) {
                return UNKNOWN;
            }
            switch (what) {
                case 0: return world.loads.places.at(load);
                case 1:
                case 2:
                case 3: return ofSlotOf(world, load, what);
                case 4: return world.loads.heats.at(load);
                case 5: return world.loads.isHot(load) ? 1 : 0;
                case 6: return world.caravan.placeOf(load);
                default: return BAD_VALUE;
            }
        }

        private static int ofSlotOf(World world, int load, int what) {
            if (!world.loads.isIn(load, IN_SLOT)) {
                return NONE;
            }
            int cell = world.loads.cells.at(load);
            switch (what) {
                case 1: return cell / MAX_SLOTS;
                case 2: return cell % MAX_SLOTS;
                default: return world.road.marks.at(cell);
            }
        }

        static int latestSlotOf(World world, int load) {
            if (!world.loads.isKnown(load)) {
                return UNKNOWN;
            }
            int latestMark = -1;
            int answer = NONE;
            for (int zone = 0; zone < world.road.zones; zone++) {
                int written = world.road.pointers.at(zone);
                for (int slot = 0; slot < written; slot++) {
                    int cell = world.road.cellAt(zone, slot);
                    if (world.road.loads.at(cell) == load && world.road.marks.at(cell) > latestMark) {
                        latestMark = world.road.marks.at(cell);
                        answer = 100 * zone + slot;
                    }
                }
            }
            return answer;
        }

        static int ofCaravan(World world, int what) {
            switch (what) {
                case 0: return world.caravan.at;
                case 1: return world.caravan.water;
                case 2: return world.caravan.skin;
                case 3: return world.caravan.bagSize;
                case 4: return world.caravan.bagRoom;
                case 5: return world.caravan.steps;
                case 6: return world.caravan.used;
                default: return BAD_VALUE;
            }
        }

        static int ofBag(World world, int place) {
            if (place < 0) {
                return BAD_VALUE;
            }
            return place < world.caravan.bagSize ? world.caravan.bag.at(place) : NONE;
        }

        /** The smallest skin holds more than the longest way, so the first well is enough for the rest. */
        static int waterNeededTo(World world, int zone) {
            if (!world.road.hasZone(zone)) {
                return UNKNOWN;
            }
            int steps = world.road.stepsBetween(world.caravan.at, zone);
            int passed = world.caravan.at;
            for (int gone = 1; gone < steps; gone++) {
                passed = world.road.zoneBehind(passed);
                if (world.road.wells.isSet(passed)) {
                    return gone * STEP_COST;
                }
            }
            return steps * STEP_COST;
        }

        static int zoneToClean(World world) {
            int best = NONE;
            int bestLive = 0;
            int bestDead = 0;
            int zone = world.caravan.at;
            for (int gone = 0; gone < world.road.zones; gone++) {
                int live = world.liveIn(zone);
                int dead = world.deadIn(zone);
                boolean isBetter = best < 0 || live < bestLive || (live == bestLive && dead > bestDead);
                if (dead > 0 && isBetter) {
                    best = zone;
                    bestLive = live;
                    bestDead = dead;
                }
                zone = world.road.zoneBehind(zone);
            }
            return best;
        }

        static int nearestZoneFor(World world, int load) {
            if (!world.loads.isKnown(load)) {
                return UNKNOWN;
            }
            int zone = world.caravan.at;
            for (int gone = 0; gone < world.road.zones; gone++) {
                if (world.mayBeWritten(load, zone)) {
                    return zone;
                }
                zone = world.road.zoneBehind(zone);
            }
            return NONE;
        }

        static int ofAll(World world, int what) {
            switch (what) {
                case 0: return world.road.zones;
                case 1: return world.road.slots;
                case 2: return liveSlots(world);
                case 3: return writtenSlots(world) - liveSlots(world);
                case 4: return world.road.zones * world.road.slots - writtenSlots(world);
                case 5: return world.road.sealCount();
                case 6: return world.loads.hotCount();
                case 7: return world.loads.bound;
                case 8: return world.road.nextMark;
                case 9: return world.road.resetsSoFar;
                case 10: return world.road.wellCount();
                case 11: return world.caravan.moved;
                default: return BAD_VALUE;
            }
        }

        private static int liveSlots(World world) {
            int found = 0;
            for (int zone = 0; zone < world.road.zones; zone++) {
                found += world.liveIn(zone);
            }
            return found;
        }

        private static int writtenSlots(World world) {
            int found = 0;
            for (int zone = 0; zone < world.road.zones; zone++) {
                found += world.road.pointers.at(zone);
            }
            return found;
        }
    }

    /** The states before the latest acts, in a ring whose rows are made once. */
    private static final class History {
        private final World[] states = new World[MAX_HISTORY];
        private int latest = MAX_HISTORY - 1;
        private int size;

        History() {
            for (int i = 0; i < states.length; i++) {
                states[i] = new World();
            }
        }

        int size() {
            return size;
        }

        private World stateAt(int index) {
            return index >= 0 && index < states.length ? states[index] : null;
        }

        void remember(World state) {
            latest = latest + 1 < MAX_HISTORY ? latest + 1 : 0;
            size = Math.min(size + 1, MAX_HISTORY);
            World kept = stateAt(latest);
            if (kept != null) {
                kept.copyFrom(state);
            }
        }

        /** Removes the latest state and brings it into the world that is given. */
        boolean takeLatest(World into) {
            World kept = stateAt(latest);
            if (size < 1 || kept == null) {
                return false;
            }
            into.copyFrom(kept);
            latest = latest > 0 ? latest - 1 : MAX_HISTORY - 1;
            size--;
            return true;
        }
    }

    /** The text, and the orders that were read from it last. */
    private static final class Orders {
        // what may stand at the next place of the text
        private static final int LETTER = 0;
        private static final int DIGIT = 1;
        private static final int DIGIT_OR_END = 2;
        private static final int END = 3;
        private static final int NOTHING = 4;

        private final Row signs = new Row(MAX_TEXT);
        private int length;
        private final Row letters = new Row(MAX_ORDERS);
        private final Row numbers = new Row(MAX_ORDERS);
        private int size;

        int length() {
            return length;
        }

        int size() {
            return size;
        }

        int letterOf(int order) {
            return letters.at(order);
        }

        int numberOf(int order) {
            return numbers.at(order);
        }

        int append(int sign) {
            if (length >= MAX_TEXT) {
                return FULL;
            }
            signs.change(length, sign);
            length++;
            return length;
        }

        int empty() {
            int previous = length;
            length = 0;
            return previous;
        }

        /** Reads the whole text and returns its fault, or NO_FAULT. */
        int read() {
            size = 0;
            int allowed = LETTER;
            for (int i = 0; i < length; i++) {
                allowed = readSign(allowed, signs.at(i));
                if (allowed == NOTHING) {
                    return i;
                }
            }
            return allowed == LETTER || allowed == DIGIT ? length : NO_FAULT;
        }

        private int readSign(int allowed, int sign) {
            if (allowed == LETTER) {
                return readLetter(sign);
            }
            if (allowed == DIGIT && isDigit(sign)) {
                return readDigit(sign) == 0 ? END : DIGIT_OR_END;
            }
            if (allowed == DIGIT_OR_END && isDigit(sign)) {
                readDigit(sign);
                return END;
            }
            return allowed != DIGIT && sign == ';' ? LETTER : NOTHING;
        }

        private int readLetter(int sign) {
            letters.change(size, sign);
            numbers.change(size, 0);
            size++;
            switch (sign) {
                case 'g':
                case 'w':
                case 't':
                case 'p':
                case 'd': return DIGIT;
                case 'r':
                case 's':
                case 'c': return END;
                default: return NOTHING;
            }
        }

        private static boolean isDigit(int sign) {
            return sign >= '0' && sign <= '9';
        }

        /** Adds a digit to the number of the latest order and returns that number. */
        private int readDigit(int sign) {
            int number = numbers.at(size - 1) * 10 + (sign - '0');
            numbers.change(size - 1, number);
            return number;
        }
    }
}
