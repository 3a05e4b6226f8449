import java.util.Arrays;
import java.util.NoSuchElementException;

/** Caves in which a hero goes: told first, then played turn by turn, and made again from a log. */
public final class DelveKeep {
    private static final int SIDE = 12;
    private static final int CELLS = SIDE * SIDE;
    private static final int WAYS = 4;
    private static final int LOCKS = 3;
    private static final int ALL_LOCKS = 7;
    private static final int KINDS = 8;
    private static final int FIRST_POTION = 3;
    private static final int LAST_POTION = 5;
    private static final int BAG = 6;
    private static final int BLADE = 7;
    private static final int MOST_CREATURES = 8;
    private static final int MOST_THINGS = 24;
    private static final int MOST_LAMPS = 4;
    private static final int MOST_CALLS = 512;
    private static final int MOST_WEIGHT = 30;
    private static final int TOP_SPEED = 24;
    private static final int TURN = 12;
    private static final int HASTE_TICKS = 12;
    private static final int BLOW_NOISE = 6;
    private static final int DOOR_MUFFLES = 3;
    private static final int FLIGHT = 5;
    private static final int FAR = 1000000;
    private static final int MANY = 1000000;

    private static final int HERO = 0;
    private static final int NONE = -1;
    private static final int CARRIED = -1;
    private static final int GONE = -2;
    private static final int IN_BAG = -3;
    private static final int NO_TURN = -1000000;

    private static final int GO = 0;
    private static final int REST = 1;
    private static final int TAKE = 2;
    private static final int DROP = 3;
    private static final int PACK = 4;
    private static final int DRINK = 5;
    private static final int HURL = 6;
    private static final int SHOUT = 7;
    private static final int PRAY = 8;

    private static final String CELL_SIGNS = "#.~+/012";
    private static final String EFFECT_SIGNS = "hdsbf";
    private static final int[] LOOKS = {0, 1, 2, 0, 2, 1, 1, 0, 2, 1, 2, 0, 2, 0, 1, 2, 1, 0};

    private final World told;
    private final World now;
    private final World again;
    private final Log log;
    private final Bones bones;
    private char standing;
    private int redone;

    public DelveKeep() {
        told = new World();
        now = new World();
        again = new World();
        log = new Log();
        bones = new Bones();
        standing = 'n';
        redone = 0;
    }

    // ---- what is told ahead of a world

    public char dig(int x, int y, char cell)
            throws IndexOutOfBoundsException, IllegalArgumentException, IllegalStateException {
        checkPlace(x, y);
        if (CELL_SIGNS.indexOf(cell) < 0) {
            throw new IllegalArgumentException();
        }
        checkNoWorld();
        char before = told.cave.signAt(spot(x, y));
        told.cave.change(spot(x, y), cell);
        standing = 'n';
        return before;
    }

    public int setKind(int kind, int weight, boolean isWooden)
            throws IllegalArgumentException, IllegalStateException {
        checkRange(kind, 0, KINDS - 1);
        checkRange(weight, 0, 9);
        checkNoWorld();
        int before = at(told.kinds.weight, kind);
        told.kinds.tell(kind, weight, isWooden);
        standing = 'n';
        return before;
    }

    public char setEffect(int kind, char effect, int n, int radius)
            throws IllegalArgumentException, IllegalStateException {
        checkRange(kind, FIRST_POTION, LAST_POTION);
        if (EFFECT_SIGNS.indexOf(effect) < 0) {
            throw new IllegalArgumentException();
        }
        checkRange(n, 1, 20);
        checkRange(radius, 0, 3);
        checkNoWorld();
        char before = told.kinds.effectOf(kind);
        told.kinds.tellEffect(kind, effect, n, radius);
        standing = 'n';
        return before;
    }

    public int setHero(int x, int y, int speed, int health)
            throws IndexOutOfBoundsException, IllegalArgumentException, IllegalStateException {
        checkPlace(x, y);
        checkRange(speed, 1, TOP_SPEED);
        checkRange(health, 1, 99);
        checkNoWorld();
        int before = at(told.creatures.health, HERO);
        told.creatures.tell(HERO, spot(x, y), speed, 0, health);
        standing = 'n';
        return before;
    }

    public int addBeast(int x, int y, int speed, int strength, int health)
            throws IndexOutOfBoundsException, IllegalArgumentException, IllegalStateException {
        checkPlace(x, y);
        checkRange(speed, 1, TOP_SPEED);
        checkRange(strength, 0, 9);
        checkRange(health, 1, 30);
        checkNoWorld();
        checkRoom(told.creatures.count, MOST_CREATURES);
        int beast = told.creatures.count;
        told.creatures.tell(beast, spot(x, y), speed, strength, health);
        told.creatures.count = beast + 1;
        standing = 'n';
        return beast;
    }

    public int addThing(int kind, int x, int y, int bag)
            throws IllegalArgumentException, IndexOutOfBoundsException, UnsupportedOperationException,
            IllegalStateException {
        checkRange(kind, 0, KINDS - 1);
        checkPlace(x, y);
        if (bag != NONE) {
            checkThing(bag);
            checkBag(bag);
        }
        checkNoWorld();
        checkRoom(told.things.count, MOST_THINGS);
        standing = 'n';
        return told.things.add(kind, bag == NONE ? spot(x, y) : IN_BAG - bag);
    }

    public int addLamp(int x, int y, int radius)
            throws IndexOutOfBoundsException, IllegalArgumentException, IllegalStateException {
        checkPlace(x, y);
        checkRange(radius, 0, 9);
        checkNoWorld();
        checkRoom(told.lamps.count, MOST_LAMPS);
        standing = 'n';
        return told.lamps.add(spot(x, y), radius);
    }

    public int begin(int seed) throws IllegalArgumentException, IllegalStateException {
        if (seed < 0) {
            throw new IllegalArgumentException();
        }
        checkNoWorld();
        if (!told.creatures.allStandApart() || !told.allStandFree()) {
            throw new IllegalStateException();
        }
        make(now, seed);
        make(again, seed);
        log.count = 0;
        redone = 0;
        standing = 'o';
        now.waitForHero();
        settle();
        return now.ticks;
    }

    public int leave() throws IllegalStateException {
        checkWorld();
        standing = 'l';
        return now.ticks;
    }

    // ---- acts

    public char go(int way) throws IllegalArgumentException, IllegalStateException {
        checkWay(way);
        checkWorld();
        int answer = act(GO, way, 0);
        return answer == NO_TURN ? 'b' : (char) answer;
    }

    public int rest() throws IllegalStateException {
        checkWorld();
        act(REST, 0, 0);
        return now.ticks;
    }

    public int take(int thing)
            throws IndexOutOfBoundsException, IllegalStateException, NoSuchElementException,
            UnsupportedOperationException {
        checkThing(thing);
        checkWorld();
        if (at(now.things.place, thing) != now.heroSpot()) {
            throw new NoSuchElementException();
        }
        if (now.things.carriedWeight(now.kinds) + now.things.wholeWeight(thing, now.kinds)
                > MOST_WEIGHT) {
            throw new UnsupportedOperationException();
        }
        return act(TAKE, thing, 0);
    }

    public int drop(int thing)
            throws IndexOutOfBoundsException, IllegalStateException, NoSuchElementException {
        checkThing(thing);
        checkWorld();
        checkInHands(thing);
        return act(DROP, thing, 0);
    }

    public int pack(int thing, int bag)
            throws IndexOutOfBoundsException, IllegalStateException, NoSuchElementException,
            UnsupportedOperationException {
        checkThing(thing);
        if (bag != NONE) {
            checkThing(bag);
        }
        checkWorld();
        checkCarried(thing);
        if (bag != NONE) {
            checkCarried(bag);
            checkBag(bag);
            if (now.things.isWithin(bag, thing)) {
                throw new UnsupportedOperationException();
            }
        }
        return act(PACK, thing, bag);
    }

    public int drink(int thing)
            throws IndexOutOfBoundsException, IllegalStateException, NoSuchElementException,
            UnsupportedOperationException {
        checkThing(thing);
        checkWorld();
        checkInHands(thing);
        if (!isPotion(at(now.things.kind, thing))) {
            throw new UnsupportedOperationException();
        }
        return act(DRINK, thing, 0);
    }

    public int hurl(int thing, int way)
            throws IndexOutOfBoundsException, IllegalArgumentException, IllegalStateException,
            NoSuchElementException {
        checkThing(thing);
        checkWay(way);
        checkWorld();
        checkInHands(thing);
        return act(HURL, thing, way);
    }

    public int shout(int loudness) throws IllegalArgumentException, IllegalStateException {
        checkRange(loudness, 1, 30);
        checkWorld();
        return act(SHOUT, loudness, 0);
    }

    public int pray() throws IllegalStateException {
        checkWorld();
        return act(PRAY, 0, 0);
    }

    // ---- what is asked

    public char state() {
        return standing;
    }

    public int tick() {
        return shown().ticks;
    }

    public char cell(int x, int y) throws IndexOutOfBoundsException {
        checkPlace(x, y);
        return shown().cave.signAt(spot(x, y));
    }

    public boolean see(int x, int y, int otherX, int otherY) throws IndexOutOfBoundsException {
        checkPlace(x, y);
        checkPlace(otherX, otherY);
        return shown().cave.seeEachOther(spot(x, y), spot(otherX, otherY));
    }

    public boolean heroSees(int x, int y) throws IndexOutOfBoundsException, IllegalStateException {
        checkPlace(x, y);
        checkWorld();
        return now.isSeenByHero(spot(x, y));
    }

    public int placeOf(int creature) throws IndexOutOfBoundsException {
        checkCreature(creature, HERO);
        return shownPlace(at(shown().creatures.place, creature));
    }

    public int healthOf(int creature) throws IndexOutOfBoundsException {
        checkCreature(creature, HERO);
        return at(shown().creatures.health, creature);
    }

    public int aimOf(int beast) throws IndexOutOfBoundsException, NoSuchElementException {
        checkCreature(beast, HERO + 1);
        int aim = at(shown().creatures.aim, beast);
        if (aim == NONE) {
            throw new NoSuchElementException();
        }
        return shownPlace(aim);
    }

    public int whereIs(int thing) throws IndexOutOfBoundsException {
        checkThing(thing);
        int place = at(shown().things.place, thing);
        return place < 0 ? place : shownPlace(place);
    }

    public int weightOf(int thing) throws IndexOutOfBoundsException {
        checkThing(thing);
        World world = shown();
        return world.things.wholeWeight(thing, world.kinds);
    }

    public int nameOf(int thing) throws IndexOutOfBoundsException, IllegalStateException {
        checkThing(thing);
        checkWorld();
        return now.nameOfKind(at(now.things.kind, thing));
    }

    public boolean isReachable(int x, int y) throws IndexOutOfBoundsException, IllegalStateException {
        checkPlace(x, y);
        checkWorld();
        return now.heroCouldReach(spot(x, y));
    }

    public boolean isSame() throws IllegalStateException {
        if (standing == 'n') {
            throw new IllegalStateException();
        }
        redo();
        return now.isLike(again);
    }

    public float livingShare() throws ArithmeticException {
        Creatures creatures = shown().creatures;
        int beasts = creatures.count - 1;
        if (beasts <= 0) {
            throw new ArithmeticException();
        }
        return (float) creatures.living(HERO + 1) / (float) beasts;
    }

    public double meanHealth() throws ArithmeticException {
        Creatures creatures = shown().creatures;
        int living = creatures.living(HERO);
        if (living <= 0) {
            throw new ArithmeticException();
        }
        return (double) creatures.healthOfLiving() / (double) living;
    }

    // ---- what the calls share

    private World shown() {
        return standing == 'n' ? told : now;
    }

    private void make(World world, int seed) {
        world.copy(told);
        world.order = seed % 6;
        bones.layIn(world);
    }

    private int act(int deed, int first, int second) {
        int answer = now.perform(deed, first, second);
        if (answer != NO_TURN) {
            log.add(deed, first, second);
            now.waitForHero();
            settle();
        }
        return answer;
    }

    private void settle() {
        if (!now.creatures.lives(HERO)) {
            bones.note(now);
            now.layHands();
            standing = 'd';
        }
    }

    // The world made again is kept, so that each deed of the log is done again only once.
    private void redo() {
        again.waitForHero();
        for (; redone < log.count; redone++) {
            again.perform(at(log.deed, redone), at(log.first, redone), at(log.second, redone));
            again.waitForHero();
        }
        if (!again.creatures.lives(HERO)) {
            again.layHands();
        }
    }

    private void checkNoWorld() {
        if (standing == 'o') {
            throw new IllegalStateException();
        }
    }

    private void checkWorld() {
        if (standing != 'o') {
            throw new IllegalStateException();
        }
    }

    private void checkThing(int thing) {
        if (thing < 0 || thing >= told.things.count) {
            throw new IndexOutOfBoundsException();
        }
    }

    private void checkBag(int thing) {
        if (at(told.things.kind, thing) != BAG) {
            throw new UnsupportedOperationException();
        }
    }

    private void checkInHands(int thing) {
        if (at(now.things.place, thing) != CARRIED) {
            throw new NoSuchElementException();
        }
    }

    private void checkCarried(int thing) {
        if (now.things.outerPlace(thing) != CARRIED) {
            throw new NoSuchElementException();
        }
    }

    private void checkCreature(int creature, int lowest) {
        if (creature < lowest || creature >= told.creatures.count) {
            throw new IndexOutOfBoundsException();
        }
    }

    private static void checkRoom(int count, int most) {
        if (count >= most) {
            throw new IllegalStateException();
        }
    }

    private static void checkPlace(int x, int y) {
        if (x < 0 || x >= SIDE || y < 0 || y >= SIDE) {
            throw new IndexOutOfBoundsException();
        }
    }

    private static void checkWay(int way) {
        checkRange(way, 0, WAYS - 1);
    }

    private static void checkRange(int number, int lowest, int highest) {
        if (number < lowest || number > highest) {
            throw new IllegalArgumentException();
        }
    }

    private static int spot(int x, int y) {
        return SIDE * x + y;
    }

    private static int shownPlace(int spot) {
        return 100 * (spot / SIDE) + spot % SIDE;
    }

    private static int beside(int spot, int way) {
        switch (way) {
            case 0:
                return spot % SIDE == 0 ? NONE : spot - 1;
            case 1:
                return spot + SIDE < CELLS ? spot + SIDE : NONE;
            case 2:
                return spot % SIDE == SIDE - 1 ? NONE : spot + 1;
            case 3:
                return spot >= SIDE ? spot - SIDE : NONE;
            default:
                return NONE;
        }
    }

    private static boolean areNeighbours(int one, int other) {
        int across = one / SIDE - other / SIDE;
        int down = one % SIDE - other % SIDE;
        return across * across + down * down == 1;
    }

    private static int gap(int one, int other) {
        int across = Math.abs(one / SIDE - other / SIDE);
        int down = Math.abs(one % SIDE - other % SIDE);
        return Math.max(across, down);
    }

    private static boolean isPotion(int kind) {
        return kind >= FIRST_POTION && kind <= LAST_POTION;
    }

    private static boolean isFree(char sign) {
        return sign == '.' || sign == '~' || sign == '/';
    }

    // Rows are read and written here alone, so that no index is used untested.
    private static int at(int[] row, int index) {
        return index >= 0 && index < row.length ? row[index] : 0;
    }

    private static void put(int[] row, int index, int value) {
        if (index >= 0 && index < row.length) {
            row[index] = value;
        }
    }

    private static void copyRow(int[] from, int[] to) {
        System.arraycopy(from, 0, to, 0, Math.min(from.length, to.length));
    }

    /** The cells, what is seen over them, and how far it is over them. */
    private static final class Cave {
        private final char[] signs = new char[CELLS];
        // A muffling door waits in the queue, so a cell may stand there more than once.
        private final int[] queue = new int[DOOR_MUFFLES * CELLS];
        private final int[] delay = new int[CELLS];
        final int[] ways = new int[CELLS];
        final int[] steps = new int[CELLS];
        private int aimed = NONE;

        Cave() {
            for (int p = 0; p < signs.length; p++) {
                signs[p] = '#';
            }
        }

        void copy(Cave other) {
            System.arraycopy(other.signs, 0, signs, 0, Math.min(other.signs.length, signs.length));
            aimed = NONE;
        }

        char signAt(int spot) {
            return spot >= 0 && spot < signs.length ? signs[spot] : '#';
        }

        void change(int spot, char sign) {
            if (spot >= 0 && spot < signs.length) {
                signs[spot] = sign;
            }
            aimed = NONE;
        }

        boolean isFreeAt(int spot) {
            return isFree(signAt(spot));
        }

        // A line has points inside a cell if the cell's middle is nearer to it than half the
        // line's width across the cell; all in whole numbers, so that it is even both ways.
        boolean seeEachOther(int one, int other) {
            int x = one / SIDE;
            int y = one % SIDE;
            int dx = other / SIDE - x;
            int dy = other % SIDE - y;
            int width = Math.abs(dx) + Math.abs(dy);
            int lastX = Math.max(x, x + dx);
            int lastY = Math.max(y, y + dy);
            for (int cx = Math.min(x, x + dx); cx <= lastX; cx++) {
                for (int cy = Math.min(y, y + dy); cy <= lastY; cy++) {
                    int third = spot(cx, cy);
                    int off = Math.abs(dx * (cy - y) - dy * (cx - x));
                    if (2 * off < width && third != one && third != other && !isFreeAt(third)) {
                        return false;
                    }
                }
            }
            return true;
        }

        // The steps to an aim stay good until a cell is changed or another aim is asked for.
        void aimAt(int aim) {
            if (aimed != aim) {
                flood(steps, aim, 1, 0, FAR);
                aimed = aim;
            }
        }

        /**
         * Puts the least costs of coming from a cell into a row, NONE where one cannot come:
         * 1 for a free cell, and what a shut door costs for closed ones and the locks given as bits.
         */
        void flood(int[] row, int from, int shut, int locks, int most) {
            Arrays.fill(row, NONE);
            put(row, from, 0);
            put(delay, from, 0);
            put(queue, 0, from);
            int tail = 1;
            for (int head = 0; head < tail && head < queue.length; head++) {
                int spot = queue[head];
                int cost = at(row, spot);
                int wait = at(delay, spot);
                if (wait > 0) {
                    put(delay, spot, wait - 1);
                    put(queue, tail, spot);
                    tail++;
                }
                for (int way = 0; way < WAYS && wait == 0 && cost < most; way++) {
                    int next = beside(spot, way);
                    int toll = tollOf(signAt(next), shut, locks);
                    if (toll > 0 && at(row, next) == NONE) {
                        put(row, next, cost + toll);
                        put(delay, next, toll - 1);
                        put(queue, tail, next);
                        tail++;
                    }
                }
            }
        }

        // No way leads through a cell whose toll is 0.
        private static int tollOf(int sign, int shut, int locks) {
            switch (sign) {
                case '.':
                case '~':
                case '/':
                    return 1;
                case '+':
                    return shut;
                case '0':
                case '1':
                case '2':
                    return (locks >> sign - '0' & 1) == 1 ? shut : 0;
                default:
                    return 0;
            }
        }

        boolean isLike(Cave other) {
            for (int p = 0; p < CELLS; p++) {
                if (signAt(p) != other.signAt(p)) {
                    return false;
                }
            }
            return true;
        }
    }

    /** The kinds of things, and the effects of those that are potions. */
    private static final class Kinds {
        final int[] weight = new int[KINDS];
        private final int[] wooden = new int[KINDS];
        final int[] effect = new int[KINDS];
        final int[] strength = new int[KINDS];
        final int[] radius = new int[KINDS];

        Kinds() {
            for (int kind = 0; kind < KINDS; kind++) {
                put(weight, kind, 1);
                put(effect, kind, 'h');
                put(strength, kind, 1);
            }
        }

        void copy(Kinds other) {
            copyRow(other.weight, weight);
            copyRow(other.wooden, wooden);
            copyRow(other.effect, effect);
            copyRow(other.strength, strength);
            copyRow(other.radius, radius);
        }

        void tell(int kind, int howHeavy, boolean isOfWood) {
            put(weight, kind, howHeavy);
            put(wooden, kind, isOfWood ? 1 : 0);
        }

        void tellEffect(int kind, char sign, int n, int reach) {
            put(effect, kind, sign);
            put(strength, kind, n);
            put(radius, kind, reach);
        }

        char effectOf(int kind) {
            return (char) at(effect, kind);
        }

        boolean isWooden(int kind) {
            return at(wooden, kind) == 1;
        }
    }

    /** The hero, who is number 0, and the beasts, as rows by number. */
    private static final class Creatures {
        final int[] place = new int[MOST_CREATURES];
        private final int[] speed = new int[MOST_CREATURES];
        final int[] strength = new int[MOST_CREATURES];
        final int[] first = new int[MOST_CREATURES];
        final int[] health = new int[MOST_CREATURES];
        private final int[] energy = new int[MOST_CREATURES];
        private final int[] haste = new int[MOST_CREATURES];
        private final int[] hasteLeft = new int[MOST_CREATURES];
        final int[] aim = new int[MOST_CREATURES];
        int count = 1;

        Creatures() {
            for (int i = 0; i < MOST_CREATURES; i++) {
                put(aim, i, NONE);
            }
            put(speed, HERO, 12);
            put(first, HERO, 30);
            put(health, HERO, 30);
        }

        void copy(Creatures other) {
            copyRow(other.place, place);
            copyRow(other.speed, speed);
            copyRow(other.strength, strength);
            copyRow(other.first, first);
            copyRow(other.health, health);
            copyRow(other.energy, energy);
            copyRow(other.haste, haste);
            copyRow(other.hasteLeft, hasteLeft);
            copyRow(other.aim, aim);
            count = other.count;
        }

        void tell(int creature, int spot, int howFast, int howStrong, int howHealthy) {
            put(place, creature, spot);
            put(speed, creature, howFast);
            put(strength, creature, howStrong);
            put(first, creature, howHealthy);
            put(health, creature, howHealthy);
        }

        boolean lives(int creature) {
            return at(health, creature) > 0;
        }

        int living(int lowest) {
            int number = 0;
            for (int i = lowest; i < count; i++) {
                if (lives(i)) {
                    number++;
                }
            }
            return number;
        }

        int healthOfLiving() {
            int sum = 0;
            for (int i = 0; i < count; i++) {
                sum += Math.max(0, at(health, i));
            }
            return sum;
        }

        int livingAt(int spot) {
            for (int i = 0; i < count; i++) {
                if (at(health, i) > 0 && at(place, i) == spot) {
                    return i;
                }
            }
            return NONE;
        }

        boolean allStandApart() {
            for (int i = 0; i < count; i++) {
                if (livingAt(at(place, i)) != i) {
                    return false;
                }
            }
            return true;
        }

        boolean isWeak(int creature) {
            return 3 * at(health, creature) < at(first, creature);
        }

        void harm(int creature, int by) {
            put(health, creature, at(health, creature) - by);
        }

        void heal(int creature, int by) {
            put(health, creature, Math.min(at(first, creature), at(health, creature) + by));
        }

        void hasten(int creature, int howFast) {
            put(haste, creature, howFast);
            put(hasteLeft, creature, HASTE_TICKS);
        }

        void gainEnergy() {
            for (int i = 0; i < count; i++) {
                if (lives(i)) {
                    int gain = at(hasteLeft, i) > 0 ? at(haste, i) : at(speed, i);
                    put(energy, i, at(energy, i) + gain);
                }
                put(hasteLeft, i, Math.max(0, at(hasteLeft, i) - 1));
            }
        }

        void spendTurn(int creature) {
            put(energy, creature, at(energy, creature) - TURN);
        }

        int nextToAct() {
            int next = NONE;
            int most = TURN - 1;
            for (int i = 0; i < count; i++) {
                if (lives(i) && at(energy, i) > most) {
                    next = i;
                    most = at(energy, i);
                }
            }
            return next;
        }

        boolean isLike(Creatures other) {
            for (int i = 0; i < count; i++) {
                if (at(place, i) != at(other.place, i) || at(health, i) != at(other.health, i)) {
                    return false;
                }
            }
            return count == other.count;
        }
    }

    /** The things: of which kind they are, and where: a cell, CARRIED, GONE, or IN_BAG less the bag. */
    private static final class Things {
        final int[] kind = new int[MOST_THINGS];
        final int[] place = new int[MOST_THINGS];
        int count = 0;

        void copy(Things other) {
            copyRow(other.kind, kind);
            copyRow(other.place, place);
            count = other.count;
        }

        int add(int itsKind, int itsPlace) {
            int thing = count;
            put(kind, thing, itsKind);
            put(place, thing, itsPlace);
            count = thing + 1;
            return thing;
        }

        private int bagOf(int thing) {
            int where = at(place, thing);
            return where <= IN_BAG ? IN_BAG - where : NONE;
        }

        boolean isWithin(int thing, int holder) {
            int outer = thing;
            for (int depth = 0; depth <= MOST_THINGS && outer != NONE; depth++) {
                if (outer == holder) {
                    return true;
                }
                outer = bagOf(outer);
            }
            return false;
        }

        int outerPlace(int thing) {
            int outer = thing;
            for (int depth = 0; depth < MOST_THINGS && bagOf(outer) != NONE; depth++) {
                outer = bagOf(outer);
            }
            return at(place, outer);
        }

        int wholeWeight(int thing, Kinds kinds) {
            int sum = 0;
            for (int i = 0; i < count; i++) {
                if (isWithin(i, thing)) {
                    sum += at(kinds.weight, at(kind, i));
                }
            }
            return sum;
        }

        int carriedWeight(Kinds kinds) {
            int sum = 0;
            for (int i = 0; i < count; i++) {
                if (outerPlace(i) == CARRIED) {
                    sum += at(kinds.weight, at(kind, i));
                }
            }
            return sum;
        }

        int countAt(int where) {
            int number = 0;
            for (int i = 0; i < count; i++) {
                if (at(place, i) == where) {
                    number++;
                }
            }
            return number;
        }

        void moveAll(int from, int to) {
            for (int i = 0; i < count; i++) {
                if (at(place, i) == from) {
                    put(place, i, to);
                }
            }
        }

        boolean hasInHands(int itsKind) {
            for (int i = 0; i < count; i++) {
                if (at(kind, i) == itsKind && at(place, i) == CARRIED) {
                    return true;
                }
            }
            return false;
        }

        // The locks, as bits, whose keys are carried or lie where a row of ways has a cost.
        int keysAtHand(int[] ways) {
            int locks = 0;
            for (int i = 0; i < count; i++) {
                int where = outerPlace(i);
                if (at(kind, i) < LOCKS && (where == CARRIED || where >= 0 && at(ways, where) >= 0)) {
                    locks |= 1 << at(kind, i);
                }
            }
            return locks;
        }

        boolean isCarriedKey(int lock) {
            for (int i = 0; i < count; i++) {
                if (at(kind, i) == lock && outerPlace(i) == CARRIED) {
                    return true;
                }
            }
            return false;
        }

        boolean isLike(Things other) {
            for (int i = 0; i < count; i++) {
                if (at(place, i) != at(other.place, i)) {
                    return false;
                }
            }
            return count == other.count;
        }
    }

    /** The lamps. */
    private static final class Lamps {
        private final int[] place = new int[MOST_LAMPS];
        private final int[] radius = new int[MOST_LAMPS];
        int count = 0;

        void copy(Lamps other) {
            copyRow(other.place, place);
            copyRow(other.radius, radius);
            count = other.count;
        }

        int add(int spot, int reach) {
            put(place, count, spot);
            put(radius, count, reach);
            count++;
            return count;
        }

        boolean light(int spot, Cave cave) {
            for (int i = 0; i < count; i++) {
                int lamp = at(place, i);
                int dx = lamp / SIDE - spot / SIDE;
                int dy = lamp % SIDE - spot % SIDE;
                int reach = at(radius, i);
                if (dx * dx + dy * dy <= reach * reach && cave.seeEachOther(lamp, spot)) {
                    return true;
                }
            }
            return false;
        }
    }

    /** What the hero did in the world, as short rows. */
    private static final class Log {
        final int[] deed = new int[MOST_CALLS];
        final int[] first = new int[MOST_CALLS];
        final int[] second = new int[MOST_CALLS];
        int count = 0;

        void add(int itsDeed, int itsFirst, int itsSecond) {
            if (count < MOST_CALLS) {
                put(deed, count, itsDeed);
                put(first, count, itsFirst);
                put(second, count, itsSecond);
                count++;
            }
        }
    }

    /** Where the last hero died, and what was carried then; GONE stands for what was not. */
    private static final class Bones {
        private final int[] place = new int[MOST_THINGS];
        private int spot = NONE;

        void note(World world) {
            spot = world.heroSpot();
            for (int i = 0; i < MOST_THINGS; i++) {
                boolean isCarried = i < world.things.count && world.things.outerPlace(i) == CARRIED;
                put(place, i, isCarried ? at(world.things.place, i) : GONE);
            }
        }

        void layIn(World world) {
            if (spot == NONE || !world.cave.isFreeAt(spot)) {
                return;
            }
            for (int i = 0; i < MOST_THINGS; i++) {
                int was = at(place, i);
                if (was != GONE) {
                    put(world.things.place, i, was == CARRIED ? spot : was);
                }
            }
        }
    }

    /** One world: as it was told, as it is, or as it is made again. */
    private static final class World {
        final Cave cave = new Cave();
        final Kinds kinds = new Kinds();
        final Creatures creatures = new Creatures();
        final Things things = new Things();
        final Lamps lamps = new Lamps();
        int ticks = 0;
        int order = 0;
        private int temper = 0;
        private int blindFor = 0;
        private int known = 0;

        void copy(World other) {
            cave.copy(other.cave);
            kinds.copy(other.kinds);
            creatures.copy(other.creatures);
            things.copy(other.things);
            lamps.copy(other.lamps);
            ticks = 0;
            temper = 0;
            blindFor = 0;
            known = 0;
        }

        int heroSpot() {
            return at(creatures.place, HERO);
        }

        boolean allStandFree() {
            for (int i = 0; i < creatures.count; i++) {
                if (!cave.isFreeAt(at(creatures.place, i))) {
                    return false;
                }
            }
            return true;
        }

        boolean isSeenByHero(int spot) {
            int hero = heroSpot();
            if (blindFor > 0) {
                return spot == hero;
            }
            return cave.seeEachOther(hero, spot) && (gap(hero, spot) <= 1 || lamps.light(spot, cave));
        }

        int nameOfKind(int kind) {
            boolean isUnknown = isPotion(kind) && (known >> kind & 1) == 0;
            return isUnknown ? 100 + at(LOOKS, 3 * order + kind - FIRST_POTION) : kind;
        }

        // Each round but the last finds a further key, so that there is an end.
        boolean heroCouldReach(int spot) {
            int locks = 0;
            for (int round = 0; round <= LOCKS; round++) {
                cave.flood(cave.ways, heroSpot(), 1, locks, FAR);
                int found = things.keysAtHand(cave.ways);
                if (found == locks) {
                    break;
                }
                locks = found;
            }
            return at(cave.ways, spot) >= 0;
        }

        boolean isLike(World other) {
            return ticks == other.ticks && cave.isLike(other.cave)
                    && creatures.isLike(other.creatures) && things.isLike(other.things);
        }

        // ---- the hero's turn

        int perform(int deed, int first, int second) {
            int answer = 0;
            switch (deed) {
                case GO:
                    answer = heroGoes(first);
                    break;
                case TAKE:
                    put(things.place, first, CARRIED);
                    answer = things.carriedWeight(kinds);
                    break;
                case DROP:
                    put(things.place, first, heroSpot());
                    answer = things.carriedWeight(kinds);
                    break;
                case PACK:
                    answer = heroPacks(first, second == NONE ? CARRIED : IN_BAG - second);
                    break;
                case DRINK:
                    answer = heroDrinks(first);
                    break;
                case HURL:
                    answer = heroHurls(first, second);
                    break;
                case SHOUT:
                    answer = makeNoise(heroSpot(), first);
                    break;
                case PRAY:
                    answer = heroPrays();
                    break;
                default:
                    break;
            }
            if (answer != NO_TURN) {
                creatures.spendTurn(HERO);
            }
            return answer;
        }

        private int heroGoes(int way) {
            int next = beside(heroSpot(), way);
            int beast = creatures.livingAt(next);
            char sign = cave.signAt(next);
            if (beast > HERO) {
                strike(beast, things.hasInHands(BLADE) ? 7 : 3);
                makeNoise(next, BLOW_NOISE);
                return 'a';
            }
            if (sign == '+' || sign >= '0' && sign <= '2' && things.isCarriedKey(sign - '0')) {
                cave.change(next, '/');
                return 'o';
            }
            if (isFree(sign)) {
                put(creatures.place, HERO, next);
                return 'm';
            }
            return NO_TURN;
        }

        private void strike(int beast, int by) {
            boolean fled = creatures.isWeak(beast);
            creatures.harm(beast, by);
            if (!creatures.lives(beast)) {
                temper += fled ? -2 : 1;
            }
        }

        private int heroPacks(int thing, int where) {
            put(things.place, thing, where);
            return things.countAt(where);
        }

        private int heroDrinks(int thing) {
            int kind = at(things.kind, thing);
            useUp(thing);
            work(kind, HERO);
            burnBy(kind, heroSpot(), 0);
            return at(creatures.health, HERO);
        }

        private int heroHurls(int thing, int way) {
            int flown = 0;
            int spot = heroSpot();
            boolean isHit = false;
            while (flown < FLIGHT && !isHit && cave.isFreeAt(beside(spot, way))) {
                spot = beside(spot, way);
                flown++;
                isHit = creatures.livingAt(spot) > HERO;
            }
            put(things.place, thing, spot);
            int kind = at(things.kind, thing);
            if (isPotion(kind)) {
                shatter(thing, spot);
                burnBy(kind, spot, at(kinds.radius, kind));
                makeNoise(spot, BLOW_NOISE);
            } else if (kind == BLADE && isHit) {
                strike(creatures.livingAt(spot), 4);
                makeNoise(spot, BLOW_NOISE);
            }
            return flown;
        }

        private void shatter(int thing, int spot) {
            int kind = at(things.kind, thing);
            int reach = at(kinds.radius, kind);
            useUp(thing);
            for (int i = 0; i < creatures.count; i++) {
                if (creatures.lives(i) && gap(at(creatures.place, i), spot) <= reach) {
                    work(kind, i);
                }
            }
        }

        private void useUp(int thing) {
            put(things.place, thing, GONE);
            known |= 1 << at(things.kind, thing);
        }

        private void work(int kind, int creature) {
            int n = at(kinds.strength, kind);
            switch (at(kinds.effect, kind)) {
                case 'h':
                    creatures.heal(creature, n);
                    break;
                case 'd':
                    creatures.harm(creature, n);
                    break;
                case 's':
                    creatures.hasten(creature, n);
                    break;
                case 'b':
                    blindFor = creature == HERO ? n : blindFor;
                    break;
                default:
                    break;
            }
        }

        private void burnBy(int potion, int spot, int reach) {
            if (kinds.effectOf(potion) != 'f') {
                return;
            }
            for (int i = 0; i < things.count; i++) {
                int where = at(things.place, i);
                if (where >= 0 && gap(where, spot) <= reach && kinds.isWooden(at(things.kind, i))) {
                    put(things.place, i, GONE);
                    things.moveAll(IN_BAG - i, where);
                }
            }
        }

        private int heroPrays() {
            if (creatures.isWeak(HERO) && temper >= 0) {
                put(creatures.health, HERO, at(creatures.first, HERO));
                temper -= 5;
            } else {
                temper--;
            }
            return temper;
        }

        void layHands() {
            things.moveAll(CARRIED, heroSpot());
        }

        // ---- what goes on behind it

        void waitForHero() {
            for (int round = 0; round < MANY && creatures.lives(HERO); round++) {
                int next = creatures.nextToAct();
                if (next == HERO) {
                    return;
                }
                if (next == NONE) {
                    creatures.gainEnergy();
                    blindFor = Math.max(0, blindFor - 1);
                    ticks++;
                } else {
                    creatures.spendTurn(next);
                    moveBeast(next);
                }
            }
        }

        private void moveBeast(int beast) {
            int hero = heroSpot();
            int here = at(creatures.place, beast);
            if (cave.seeEachOther(here, hero)) {
                put(creatures.aim, beast, hero);
            }
            int aim = at(creatures.aim, beast);
            if (aim == NONE) {
                return;
            }
            cave.aimAt(aim);
            if (creatures.isWeak(beast)) {
                flee(beast);
            } else if (areNeighbours(here, hero)) {
                creatures.harm(HERO, at(creatures.strength, beast));
                makeNoise(hero, BLOW_NOISE);
            } else {
                comeNearer(beast);
            }
            int there = at(creatures.place, beast);
            if (there == aim && !cave.seeEachOther(there, hero)) {
                put(creatures.aim, beast, NONE);
            }
        }

        private void flee(int beast) {
            int here = at(creatures.place, beast);
            int best = here;
            for (int way = 0; way < WAYS; way++) {
                int next = beside(here, way);
                if (isOpenTo(next) && at(cave.steps, next) > at(cave.steps, best)) {
                    best = next;
                }
            }
            put(creatures.place, beast, best);
        }

        private void comeNearer(int beast) {
            int here = at(creatures.place, beast);
            int best = here;
            for (int way = 0; way < WAYS; way++) {
                int next = beside(here, way);
                boolean isWay = isOpenTo(next) || cave.signAt(next) == '+';
                int steps = at(cave.steps, next);
                if (isWay && steps >= 0 && steps < at(cave.steps, best)) {
                    best = next;
                }
            }
            if (cave.signAt(best) == '+') {
                cave.change(best, '/');
            } else {
                put(creatures.place, beast, best);
            }
        }

        private boolean isOpenTo(int spot) {
            return isFree(cave.signAt(spot)) && creatures.livingAt(spot) == NONE;
        }

        private int makeNoise(int from, int loudness) {
            cave.flood(cave.ways, from, DOOR_MUFFLES, ALL_LOCKS, loudness);
            int hearers = 0;
            for (int i = HERO + 1; i < creatures.count; i++) {
                int cost = at(cave.ways, at(creatures.place, i));
                if (creatures.lives(i) && cost >= 0 && cost <= loudness) {
                    put(creatures.aim, i, from);
                    hearers++;
                }
            }
            return hearers;
        }
    }
}
