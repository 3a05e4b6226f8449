import java.util.ArrayList;
import java.util.Arrays;
import java.util.HashMap;
import java.util.HashSet;
import java.util.List;
import java.util.Map;
import java.util.NoSuchElementException;
import java.util.Set;

/**
 * A second keep, written from the document by other means than the class: sight by cutting lines
 * with squares, ways by making them shorter until nothing changes, things and creatures as objects.
 * It is slow and plain; it answers the calls that the class answers, and in the same words.
 */
final class Model {
    private static final int[] DX = {0, 1, 0, -1};
    private static final int[] DY = {-1, 0, 1, 0};
    private static final int[][] LOOKS = {{0, 1, 2}, {0, 2, 1}, {1, 0, 2}, {1, 2, 0}, {2, 0, 1}, {2, 1, 0}};
    private static final int FAR = 1 << 20;

    private static final class Creature {
        int x;
        int y;
        int speed;
        int strength;
        int first;
        int health;
        int energy;
        int hasteSpeed;
        int hasteTicks;
        int[] aim;

        Creature copy() {
            Creature other = new Creature();
            other.x = x;
            other.y = y;
            other.speed = speed;
            other.strength = strength;
            other.first = first;
            other.health = first;
            return other;
        }

        boolean lives() {
            return health > 0;
        }

        boolean isAt(int atX, int atY) {
            return x == atX && y == atY;
        }
    }

    private static final class Thing {
        int number;
        int kind;
        boolean isGone;
        boolean isCarried;
        Thing bag;
        int x;
        int y;

        void lie(int atX, int atY) {
            isGone = false;
            isCarried = false;
            bag = null;
            x = atX;
            y = atY;
        }

        boolean lies() {
            return !isGone && !isCarried && bag == null;
        }

        boolean liesAt(int atX, int atY) {
            return lies() && x == atX && y == atY;
        }

        Thing outermost() {
            return bag == null ? this : bag.outermost();
        }

        boolean isIn(Thing other) {
            return bag != null && (bag == other || bag.isIn(other));
        }
    }

    private static final class Effect {
        char sign = 'h';
        int n = 1;
        int radius = 0;
    }

    private final char[][] toldCells = new char[12][12];
    private final List<Creature> toldCreatures = new ArrayList<>();
    private final List<int[]> toldThings = new ArrayList<>();
    private final int[] weights = new int[8];
    private final boolean[] wooden = new boolean[8];
    private final Map<Integer, Effect> effects = new HashMap<>();
    private final List<int[]> lamps = new ArrayList<>();

    private char state = 'n';
    private char[][] cells;
    private List<Creature> creatures;
    private List<Thing> things;
    private int ticks;
    private int temper;
    private int blindTicks;
    private int[] looks;
    private final Set<Integer> known = new HashSet<>();

    private int[] bonesPlace;
    private final Map<Integer, Integer> bonesThings = new HashMap<>();

    Model() {
        for (char[] column : toldCells) {
            Arrays.fill(column, '#');
        }
        Arrays.fill(weights, 1);
        for (int kind = 3; kind <= 5; kind++) {
            effects.put(kind, new Effect());
        }
        Creature hero = new Creature();
        hero.speed = 12;
        hero.first = 30;
        toldCreatures.add(hero);
        resetToTold();
    }

    private void resetToTold() {
        state = 'n';
        cells = new char[12][];
        for (int x = 0; x < 12; x++) {
            cells[x] = toldCells[x].clone();
        }
        creatures = new ArrayList<>();
        for (Creature creature : toldCreatures) {
            creatures.add(creature.copy());
        }
        things = new ArrayList<>();
        for (int[] told : toldThings) {
            Thing thing = new Thing();
            thing.number = things.size();
            thing.kind = told[0];
            thing.lie(told[1], told[2]);
            thing.bag = told[3] < 0 ? null : things.get(told[3]);
            things.add(thing);
        }
        ticks = 0;
        temper = 0;
        blindTicks = 0;
        known.clear();
    }

    private static boolean free(char cell) {
        return ".~/".indexOf(cell) >= 0;
    }

    private static boolean inside(int x, int y) {
        return Math.min(x, y) >= 0 && Math.max(x, y) <= 11;
    }

    private boolean freeAt(int x, int y) {
        return inside(x, y) && free(cells[x][y]);
    }

    private Creature hero() {
        return creatures.get(0);
    }

    // ---- what is told

    private static void place(int x, int y) {
        if (!inside(x, y)) {
            throw new IndexOutOfBoundsException();
        }
    }

    private static void argument(boolean isRight) {
        if (!isRight) {
            throw new IllegalArgumentException();
        }
    }

    private void off() {
        if (state == 'o') {
            throw new IllegalStateException();
        }
    }

    private void on() {
        if (state != 'o') {
            throw new IllegalStateException();
        }
    }

    private void thing(int number) {
        if (number < 0 || number >= toldThings.size()) {
            throw new IndexOutOfBoundsException();
        }
    }

    private static boolean in(int number, int low, int high) {
        return low <= number && number <= high;
    }

    char dig(int x, int y, char cell) {
        place(x, y);
        argument("#.~+/012".indexOf(cell) >= 0);
        off();
        char before = toldCells[x][y];
        toldCells[x][y] = cell;
        resetToTold();
        return before;
    }

    int setKind(int kind, int weight, boolean isWooden) {
        argument(in(kind, 0, 7) && in(weight, 0, 9));
        off();
        int before = weights[kind];
        weights[kind] = weight;
        wooden[kind] = isWooden;
        resetToTold();
        return before;
    }

    char setEffect(int kind, char sign, int n, int radius) {
        argument(in(kind, 3, 5) && "hdsbf".indexOf(sign) >= 0 && in(n, 1, 20) && in(radius, 0, 3));
        off();
        Effect effect = effects.get(kind);
        char before = effect.sign;
        effect.sign = sign;
        effect.n = n;
        effect.radius = radius;
        resetToTold();
        return before;
    }

    int setHero(int x, int y, int speed, int health) {
        place(x, y);
        argument(in(speed, 1, 24) && in(health, 1, 99));
        off();
        Creature hero = toldCreatures.get(0);
        int before = hero.first;
        hero.x = x;
        hero.y = y;
        hero.speed = speed;
        hero.first = health;
        resetToTold();
        return before;
    }

    int addBeast(int x, int y, int speed, int strength, int health) {
        place(x, y);
        argument(in(speed, 1, 24) && in(strength, 0, 9) && in(health, 1, 30));
        off();
        if (toldCreatures.size() > 7) {
            throw new IllegalStateException();
        }
        Creature beast = new Creature();
        beast.x = x;
        beast.y = y;
        beast.speed = speed;
        beast.strength = strength;
        beast.first = health;
        toldCreatures.add(beast);
        resetToTold();
        return toldCreatures.size() - 1;
    }

    int addThing(int kind, int x, int y, int bag) {
        argument(in(kind, 0, 7));
        place(x, y);
        if (bag != -1) {
            thing(bag);
            if (toldThings.get(bag)[0] != 6) {
                throw new UnsupportedOperationException();
            }
        }
        off();
        if (toldThings.size() == 24) {
            throw new IllegalStateException();
        }
        toldThings.add(new int[] {kind, x, y, bag});
        resetToTold();
        return toldThings.size() - 1;
    }

    int addLamp(int x, int y, int radius) {
        place(x, y);
        argument(in(radius, 0, 9));
        off();
        if (lamps.size() == 4) {
            throw new IllegalStateException();
        }
        lamps.add(new int[] {x, y, radius});
        resetToTold();
        return lamps.size();
    }

    int begin(int seed) {
        argument(seed >= 0);
        off();
        Set<Integer> taken = new HashSet<>();
        for (Creature creature : toldCreatures) {
            if (!free(toldCells[creature.x][creature.y]) || !taken.add(creature.x * 12 + creature.y)) {
                throw new IllegalStateException();
            }
        }
        resetToTold();
        state = 'o';
        looks = LOOKS[seed % 6];
        if (bonesPlace != null && freeAt(bonesPlace[0], bonesPlace[1])) {
            for (Map.Entry<Integer, Integer> bone : bonesThings.entrySet()) {
                Thing thing = things.get(bone.getKey());
                thing.lie(bonesPlace[0], bonesPlace[1]);
                thing.bag = bone.getValue() < 0 ? null : things.get(bone.getValue());
            }
        }
        goOn();
        return ticks;
    }

    int leave() {
        on();
        state = 'l';
        return ticks;
    }

    // ---- time

    private void goOn() {
        while (true) {
            if (!hero().lives()) {
                end();
                return;
            }
            Creature next = null;
            for (Creature creature : creatures) {
                boolean isReady = creature.lives() && creature.energy >= 12;
                if (isReady && (next == null || creature.energy > next.energy)) {
                    next = creature;
                }
            }
            if (next == hero()) {
                return;
            }
            if (next == null) {
                tickOnce();
            } else {
                next.energy -= 12;
                beastTurn(next);
            }
        }
    }

    private void tickOnce() {
        ticks++;
        for (Creature creature : creatures) {
            if (creature.lives()) {
                creature.energy += creature.hasteTicks > 0 ? creature.hasteSpeed : creature.speed;
            }
        }
        for (Creature creature : creatures) {
            if (creature.hasteTicks > 0) {
                creature.hasteTicks--;
            }
        }
        if (blindTicks > 0) {
            blindTicks--;
        }
    }

    private void end() {
        state = 'd';
        bonesPlace = new int[] {hero().x, hero().y};
        bonesThings.clear();
        for (Thing thing : things) {
            if (thing.outermost().isCarried) {
                bonesThings.put(thing.number, thing.bag == null ? -1 : thing.bag.number);
            }
        }
        for (Thing thing : things) {
            if (thing.isCarried) {
                thing.lie(hero().x, hero().y);
            }
        }
    }

    private void heroActed() {
        hero().energy -= 12;
        goOn();
    }

    // ---- sight: the line from middle to middle, cut with the open square of each third cell

    boolean sees(int x, int y, int otherX, int otherY) {
        for (int cx = 0; cx < 12; cx++) {
            for (int cy = 0; cy < 12; cy++) {
                boolean isThird = !(cx == x && cy == y) && !(cx == otherX && cy == otherY);
                if (isThird && !free(cells[cx][cy]) && cuts(x, y, otherX - x, otherY - y, cx, cy)) {
                    return false;
                }
            }
        }
        return true;
    }

    /** Whether some t from 0 to 1 has x + t dx within cx +- 1/2 and y + t dy within cy +- 1/2, ends left out. */
    private static boolean cuts(int x, int y, int dx, int dy, int cx, int cy) {
        // t is told as a share whose divisor is 2 |dx dy|, or what of it is not 0, to stay whole
        long divisor = 2L * (dx == 0 ? 1 : Math.abs(dx)) * (dy == 0 ? 1 : Math.abs(dy));
        long[] span = {-1, divisor + 1};
        boolean isWithin = narrow(span, divisor, x, dx, cx) && narrow(span, divisor, y, dy, cy);
        return isWithin && span[0] < span[1] && overlapsLine(span, divisor);
    }

    private static boolean overlapsLine(long[] span, long divisor) {
        // an open span of t meets the closed one from 0 to 1
        return span[1] > 0 && span[0] < divisor;
    }

    private static boolean narrow(long[] span, long divisor, int from, int by, int middle) {
        if (by == 0) {
            return from == middle;
        }
        long one = divisor / (2L * by) * (2L * (middle - from) - 1);
        long other = divisor / (2L * by) * (2L * (middle - from) + 1);
        span[0] = Math.max(span[0], Math.min(one, other));
        span[1] = Math.min(span[1], Math.max(one, other));
        return true;
    }

    private boolean beastSeesHero(Creature beast) {
        return sees(beast.x, beast.y, hero().x, hero().y);
    }

    // ---- ways: costs are made less as long as one can be

    private int[][] ways(int fromX, int fromY, int closed, int[] locks) {
        int[][] costs = new int[12][12];
        for (int[] column : costs) {
            Arrays.fill(column, FAR);
        }
        costs[fromX][fromY] = 0;
        boolean isChanged = true;
        while (isChanged) {
            isChanged = false;
            for (int x = 0; x < 12; x++) {
                for (int y = 0; y < 12; y++) {
                    int step = step(cells[x][y], closed, locks);
                    for (int way = 0; way < 4 && step < FAR; way++) {
                        int nextX = x + DX[way];
                        int nextY = y + DY[way];
                        if (inside(nextX, nextY) && costs[nextX][nextY] + step < costs[x][y]) {
                            costs[x][y] = costs[nextX][nextY] + step;
                            isChanged = true;
                        }
                    }
                }
            }
        }
        return costs;
    }

    private static int step(char cell, int closed, int[] locks) {
        if (free(cell)) {
            return 1;
        }
        if (cell == '+') {
            return closed;
        }
        return cell == '#' ? FAR : locks[cell - '0'];
    }

    private int noise(int x, int y, int loudness) {
        int[][] costs = ways(x, y, 3, new int[] {3, 3, 3});
        int hearers = 0;
        for (Creature beast : creatures.subList(1, creatures.size())) {
            if (beast.lives() && costs[beast.x][beast.y] <= loudness) {
                beast.aim = new int[] {x, y};
                hearers++;
            }
        }
        return hearers;
    }

    // ---- beasts

    private Creature livingAt(int x, int y) {
        for (Creature creature : creatures) {
            if (creature.lives() && creature.isAt(x, y)) {
                return creature;
            }
        }
        return null;
    }

    private void beastTurn(Creature beast) {
        if (beastSeesHero(beast)) {
            beast.aim = new int[] {hero().x, hero().y};
        }
        if (beast.aim == null) {
            return;
        }
        int[][] steps = ways(beast.aim[0], beast.aim[1], 1, new int[] {FAR, FAR, FAR});
        if (3 * beast.health < beast.first) {
            runFrom(beast, steps);
        } else if (Math.abs(beast.x - hero().x) + Math.abs(beast.y - hero().y) == 1) {
            hero().health -= beast.strength;
            noise(hero().x, hero().y, 6);
        } else {
            runTo(beast, steps);
        }
        if (beast.isAt(beast.aim[0], beast.aim[1]) && !beastSeesHero(beast)) {
            beast.aim = null;
        }
    }

    private void runFrom(Creature beast, int[][] steps) {
        int bestWay = -1;
        int bestSteps = steps[beast.x][beast.y];
        for (int way = 0; way < 4; way++) {
            int x = beast.x + DX[way];
            int y = beast.y + DY[way];
            if (freeAt(x, y) && livingAt(x, y) == null && steps[x][y] < FAR && steps[x][y] > bestSteps) {
                bestWay = way;
                bestSteps = steps[x][y];
            }
        }
        if (bestWay >= 0) {
            beast.x += DX[bestWay];
            beast.y += DY[bestWay];
        }
    }

    private void runTo(Creature beast, int[][] steps) {
        int bestWay = -1;
        int bestSteps = steps[beast.x][beast.y];
        for (int way = 0; way < 4; way++) {
            int x = beast.x + DX[way];
            int y = beast.y + DY[way];
            boolean isFit = freeAt(x, y) && livingAt(x, y) == null || inside(x, y) && cells[x][y] == '+';
            if (isFit && steps[x][y] < bestSteps) {
                bestWay = way;
                bestSteps = steps[x][y];
            }
        }
        if (bestWay < 0) {
            return;
        }
        int x = beast.x + DX[bestWay];
        int y = beast.y + DY[bestWay];
        if (cells[x][y] == '+') {
            cells[x][y] = '/';
        } else {
            beast.x = x;
            beast.y = y;
        }
    }

    // ---- acts

    private void blow(Creature beast, int by) {
        boolean fled = 3 * beast.health < beast.first;
        beast.health -= by;
        if (!beast.lives()) {
            temper = fled ? temper - 2 : temper + 1;
        }
        noise(beast.x, beast.y, 6);
    }

    char go(int way) {
        argument(in(way, 0, 3));
        on();
        int x = hero().x + DX[way];
        int y = hero().y + DY[way];
        if (!inside(x, y) || cells[x][y] == '#') {
            return 'b';
        }
        char answer = 'm';
        Creature beast = livingAt(x, y);
        if (beast != null) {
            boolean hasBlade = things.stream().anyMatch(t -> t.kind == 7 && t.isCarried);
            blow(beast, hasBlade ? 7 : 3);
            answer = 'a';
        } else if (!free(cells[x][y])) {
            int lock = cells[x][y] - '0';
            if (cells[x][y] != '+' && things.stream().noneMatch(t -> t.kind == lock && t.outermost().isCarried)) {
                return 'b';
            }
            cells[x][y] = '/';
            answer = 'o';
        } else {
            hero().x = x;
            hero().y = y;
        }
        heroActed();
        return answer;
    }

    int rest() {
        on();
        heroActed();
        return ticks;
    }

    private int weight(Thing thing) {
        int sum = weights[thing.kind];
        for (Thing other : things) {
            sum += other.bag == thing ? weight(other) : 0;
        }
        return sum;
    }

    private int load() {
        return things.stream().filter(t -> t.isCarried).mapToInt(this::weight).sum();
    }

    private Thing inHands(int number) {
        Thing thing = things.get(number);
        if (!thing.isCarried) {
            throw new NoSuchElementException();
        }
        return thing;
    }

    int take(int number) {
        thing(number);
        on();
        Thing thing = things.get(number);
        if (!thing.liesAt(hero().x, hero().y)) {
            throw new NoSuchElementException();
        }
        if (load() + weight(thing) > 30) {
            throw new UnsupportedOperationException();
        }
        thing.isCarried = true;
        int answer = load();
        heroActed();
        return answer;
    }

    int drop(int number) {
        thing(number);
        on();
        inHands(number).lie(hero().x, hero().y);
        int answer = load();
        heroActed();
        return answer;
    }

    int pack(int number, int bagNumber) {
        thing(number);
        if (bagNumber != -1) {
            thing(bagNumber);
        }
        on();
        Thing thing = things.get(number);
        Thing bag = bagNumber == -1 ? null : things.get(bagNumber);
        if (!thing.outermost().isCarried || bag != null && !bag.outermost().isCarried) {
            throw new NoSuchElementException();
        }
        if (bag != null && (bag.kind != 6 || bag == thing || bag.isIn(thing))) {
            throw new UnsupportedOperationException();
        }
        thing.isCarried = bag == null;
        thing.bag = bag;
        int answer = (int) things.stream().filter(t -> bag == null ? t.isCarried : t.bag == bag).count();
        heroActed();
        return answer;
    }

    private void work(Effect effect, Creature creature) {
        if (effect.sign == 'h') {
            creature.health = Math.min(creature.health + effect.n, creature.first);
        } else if (effect.sign == 'd') {
            creature.health -= effect.n;
        } else if (effect.sign == 's') {
            creature.hasteSpeed = effect.n;
            creature.hasteTicks = 12;
        } else if (effect.sign == 'b' && creature == hero()) {
            blindTicks = effect.n;
        }
    }

    private static boolean near(int x, int y, int otherX, int otherY, int radius) {
        return Math.abs(x - otherX) <= radius && Math.abs(y - otherY) <= radius;
    }

    private void fire(int x, int y, int radius) {
        for (Thing thing : things) {
            if (thing.lies() && wooden[thing.kind] && near(thing.x, thing.y, x, y, radius)) {
                thing.isGone = true;
                for (Thing inner : things) {
                    if (inner.bag == thing) {
                        inner.lie(thing.x, thing.y);
                    }
                }
            }
        }
    }

    private Effect use(Thing thing) {
        thing.isCarried = false;
        thing.isGone = true;
        known.add(thing.kind);
        return effects.get(thing.kind);
    }

    int drink(int number) {
        thing(number);
        on();
        Thing thing = inHands(number);
        if (!in(thing.kind, 3, 5)) {
            throw new UnsupportedOperationException();
        }
        Effect effect = use(thing);
        if (effect.sign == 'f') {
            fire(hero().x, hero().y, 0);
        } else {
            work(effect, hero());
        }
        int answer = hero().health;
        heroActed();
        return answer;
    }

    int hurl(int number, int way) {
        thing(number);
        argument(in(way, 0, 3));
        on();
        Thing thing = inHands(number);
        int flown = 0;
        int x = hero().x;
        int y = hero().y;
        Creature hit = null;
        while (flown < 5 && hit == null && freeAt(x + DX[way], y + DY[way])) {
            x += DX[way];
            y += DY[way];
            flown++;
            hit = livingAt(x, y);
        }
        thing.lie(x, y);
        if (in(thing.kind, 3, 5)) {
            Effect effect = use(thing);
            if (effect.sign == 'f') {
                fire(x, y, effect.radius);
            }
            for (Creature creature : creatures) {
                if (creature.lives() && near(creature.x, creature.y, x, y, effect.radius)) {
                    work(effect, creature);
                }
            }
            noise(x, y, 6);
        } else if (thing.kind == 7 && hit != null) {
            blow(hit, 4);
        }
        heroActed();
        return flown;
    }

    int shout(int loudness) {
        argument(in(loudness, 1, 30));
        on();
        int answer = noise(hero().x, hero().y, loudness);
        heroActed();
        return answer;
    }

    int pray() {
        on();
        if (3 * hero().health < hero().first && temper >= 0) {
            hero().health = hero().first;
            temper -= 5;
        } else {
            temper -= 1;
        }
        int answer = temper;
        heroActed();
        return answer;
    }

    // ---- what is asked

    char state() {
        return state;
    }

    int tick() {
        return ticks;
    }

    char cell(int x, int y) {
        place(x, y);
        return cells[x][y];
    }

    boolean see(int x, int y, int otherX, int otherY) {
        place(x, y);
        place(otherX, otherY);
        return sees(x, y, otherX, otherY);
    }

    boolean heroSees(int x, int y) {
        place(x, y);
        on();
        if (blindTicks > 0) {
            return hero().isAt(x, y);
        }
        boolean isLit = near(x, y, hero().x, hero().y, 1);
        for (int[] lamp : lamps) {
            int dx = lamp[0] - x;
            int dy = lamp[1] - y;
            isLit |= dx * dx + dy * dy <= lamp[2] * lamp[2] && sees(lamp[0], lamp[1], x, y);
        }
        return isLit && sees(hero().x, hero().y, x, y);
    }

    private Creature creature(int number, int lowest) {
        if (number < lowest || number >= creatures.size()) {
            throw new IndexOutOfBoundsException();
        }
        return creatures.get(number);
    }

    int placeOf(int number) {
        Creature creature = creature(number, 0);
        return 100 * creature.x + creature.y;
    }

    int healthOf(int number) {
        return creature(number, 0).health;
    }

    int aimOf(int number) {
        Creature beast = creature(number, 1);
        if (beast.aim == null) {
            throw new NoSuchElementException();
        }
        return 100 * beast.aim[0] + beast.aim[1];
    }

    int whereIs(int number) {
        thing(number);
        Thing thing = things.get(number);
        if (thing.isGone) {
            return -2;
        }
        if (thing.isCarried) {
            return -1;
        }
        return thing.bag != null ? -3 - thing.bag.number : 100 * thing.x + thing.y;
    }

    int weightOf(int number) {
        thing(number);
        return weight(things.get(number));
    }

    int nameOf(int number) {
        thing(number);
        on();
        int kind = things.get(number).kind;
        return in(kind, 3, 5) && !known.contains(kind) ? 100 + looks[kind - 3] : kind;
    }

    boolean isReachable(int x, int y) {
        place(x, y);
        on();
        int[] locks = {FAR, FAR, FAR};
        while (true) {
            int[][] costs = ways(hero().x, hero().y, 1, locks);
            boolean isNew = false;
            for (Thing thing : things) {
                Thing outer = thing.outermost();
                boolean isHad = outer.isCarried || outer.lies() && costs[outer.x][outer.y] < FAR;
                if (thing.kind < 3 && isHad && locks[thing.kind] == FAR) {
                    locks[thing.kind] = 1;
                    isNew = true;
                }
            }
            if (!isNew) {
                return costs[x][y] < FAR;
            }
        }
    }

    boolean isSame() {
        if (state == 'n') {
            throw new IllegalStateException();
        }
        return true;
    }

    float livingShare() {
        if (creatures.size() == 1) {
            throw new ArithmeticException();
        }
        long living = creatures.stream().skip(1).filter(Creature::lives).count();
        return (float) living / (float) (creatures.size() - 1);
    }

    double meanHealth() {
        return creatures.stream().filter(Creature::lives).mapToInt(c -> c.health).average()
                .orElseThrow(ArithmeticException::new);
    }

    int creatures() {
        return creatures.size();
    }

    int things() {
        return things.size();
    }
}
