import java.util.NoSuchElementException;

/** The edges of what the document says of beasts: their numbers, aims, ways, fear and blows. */
public final class BeastEdgesTest {
    private static final int[] DX = {0, 1, 0, -1};
    private static final int[] DY = {-1, 0, 1, 0};

    private BeastEdgesTest() {
    }

    public static void main(String[] args) {
        noneToSeven();
        eachOfSevenIsItsOwn();
        strengthsFrom0To9();
        healthsFrom1To30();
        aimsComeWithATurn();
        aimsGoOverToWhatIsSeen();
        aimsAreLostAtTheAim();
        aimsAreKeptWhereTheHeroIsSeen();
        aimsAreLostWhereAPotionBroke();
        distancesAreLong();
        distancesCountDoorsAsOne();
        distancesLeaveLocksOut();
        lowestOfTheNearest();
        takenCellsAreLeftOut();
        doorsAreOpenedInPlaceOfGoing();
        fleesBelowAThird();
        fleesOverFreeCellsAlone();
        fleesByTheLowestWay();
        fleesNotAtAnEnd();
        strikesNeighboursAlone();
        deadAtZero();
        Check.end();
    }

    /** "At most 7 beasts are numbered from 1, each with a place, a speed, a strength and a health." */
    private static void noneToSeven() {
        DelveKeep none = Keeps.open();
        Check.is("none: begun", none.begin(0), 1);
        Check.is("none: heard", none.shout(30), 0);
        Check.is("none: rested", none.rest(), 3);
        Check.is("none: mean", none.meanHealth(), 30.0);
        Check.refused("none: aim", none, IndexOutOfBoundsException.class, () -> none.aimOf(1));
        for (int beasts = 1; beasts <= 7; beasts++) {
            DelveKeep keep = Keeps.open();
            keep.setHero(3, 0, 12, 99);
            for (int beast = 1; beast <= beasts; beast++) {
                String label = beasts + " beasts, " + beast;
                Check.is(label, keep.addBeast(11, beast, 12, beast, 3 * beast), beast);
                Check.is(label + ", no aim as told", Keeps.aim(keep, beast), -1);
            }
            keep.begin(0);
            for (int beast = 1; beast <= beasts; beast++) {
                Check.is(beasts + " beasts, " + beast + ", no aim yet", Keeps.aim(keep, beast), -1);
            }
            keep.rest();
            for (int beast = 1; beast <= beasts; beast++) {
                String label = beasts + " beasts, " + beast;
                Check.is(label + ", health", keep.healthOf(beast), 3 * beast);
                Check.is(label + ", aim", Keeps.aim(keep, beast), 300);
                Check.is(label + ", place", keep.placeOf(beast), 1100 + beast - 1);
            }
            Check.is(beasts + " beasts and no more", Keeps.creatures(keep), beasts + 1);
        }
    }

    /** One beast of seven is beside the hero: its strength, its speed, its health, its fear and its haste. */
    private static void eachOfSevenIsItsOwn() {
        for (int one = 1; one <= 7; one++) {
            int strength = one + 2;
            DelveKeep keep = oneBeside(one, 'h', 1);
            Keeps.rest(keep, 3);
            Check.is("blows of one of seven, " + one, keep.healthOf(0), 99 - 6 * strength);
            DelveKeep afraid = oneBeside(one, 'd', 15);
            Keeps.rest(afraid, 3);
            Check.is("health of one of seven, " + one, afraid.healthOf(one), 5 + one);
            boolean isAfraid = 3 * (5 + one) < 20 + one;
            int due = 99 - (isAfraid ? 2 : 6) * strength;
            Check.is("fear of one of seven, " + one, afraid.healthOf(0), due);
            DelveKeep healed = oneBeside(one, 'h', 20);
            healed.go(1);
            Check.is("struck, one of seven, " + one, healed.healthOf(one), 17 + one);
            healed.hurl(1, 1);
            Check.is("healed, one of seven, " + one, healed.healthOf(one), 20 + one);
            DelveKeep slow = oneBeside(one, 's', 1);
            int[] blows = {3, 3, 3, 3, 3, 3, 3, 3, 3, 3, 3, 3, 4, 5, 6};
            for (int turn = 0; turn < blows.length; turn++) {
                String label = "slow, one of seven, " + one + ", turn " + turn;
                Check.is(label, slow.healthOf(0), 99 - blows[turn] * strength);
                slow.rest();
            }
        }
    }

    /** A beast of a number beside the hero, hit by a potion in the third tick; the others cannot come. */
    private static DelveKeep oneBeside(int one, char effect, int n) {
        DelveKeep keep = Keeps.dug("#@.#", "####", ".......");
        keep.setHero(1, 0, 12, 99);
        keep.setEffect(3, effect, n, 0);
        keep.addThing(3, 1, 0, -1);
        keep.addThing(3, 1, 0, -1);
        for (int beast = 1; beast <= 7; beast++) {
            boolean isOne = beast == one;
            keep.addBeast(isOne ? 2 : beast - 1, isOne ? 0 : 2, isOne ? 12 : 1, beast + 2, 20 + beast);
        }
        keep.begin(0);
        keep.take(0);
        keep.take(1);
        Check.is("struck twice", keep.healthOf(0), 99 - 2 * (one + 2));
        keep.hurl(0, 1);
        return keep;
    }

    private static void strengthsFrom0To9() {
        for (int strength = 0; strength <= 9; strength++) {
            DelveKeep keep = Keeps.dug("@.");
            keep.addBeast(1, 0, 12, strength, 1);
            keep.begin(0);
            keep.rest();
            Check.is("strength " + strength, keep.healthOf(0), 30 - strength);
        }
    }

    private static void healthsFrom1To30() {
        for (int health = 1; health <= 30; health++) {
            DelveKeep keep = Keeps.dug("@.");
            keep.addBeast(1, 0, 1, 0, health);
            Check.is("health as told", keep.healthOf(1), health);
            keep.begin(0);
            int blows = 0;
            while (keep.go(1) == 'a') {
                blows++;
                Check.is("health " + health + " behind " + blows, keep.healthOf(1), health - 3 * blows);
            }
            Check.is("blows for " + health, blows, (health + 2) / 3);
        }
    }

    // ---- aims

    /** "When a beast has its turn, and its cell and the hero's see each other, its aim is the hero's cell." */
    private static void aimsComeWithATurn() {
        DelveKeep keep = Keeps.dug("@..........");
        keep.addBeast(10, 0, 1, 0, 1);
        keep.begin(0);
        for (int tick = 1; tick <= 12; tick++) {
            Check.is("no aim ahead of its turn, tick " + tick, Keeps.aim(keep, 1), -1);
            keep.rest();
        }
        Check.is("with its turn it has", Keeps.aim(keep, 1), 0);
        DelveKeep gone = Keeps.dug("@..........", "##.#######.");
        gone.addBeast(10, 1, 1, 0, 1);
        gone.begin(0);
        Keeps.rest(gone, 14);
        Check.is("not seen, none", Keeps.aim(gone, 1), -1);
        Check.is("not seen, it stays", gone.placeOf(1), 1001);
        DelveKeep far = Keeps.open();
        far.addBeast(11, 11, 12, 0, 1);
        far.begin(0);
        far.rest();
        Check.is("seen over the whole cave", Keeps.aim(far, 1), 0);
    }

    /** What is seen takes the place of what was heard, and what is heard that of what was seen. */
    private static void aimsGoOverToWhatIsSeen() {
        DelveKeep keep = Keeps.dug("....@", "...##", "...##");
        keep.addBeast(0, 2, 4, 0, 1);
        keep.begin(0);
        keep.shout(30);
        Check.is("heard", keep.aimOf(1), 400);
        keep.go(3);
        Check.is("heard still", keep.aimOf(1), 400);
        keep.rest();
        Check.is("seen", keep.aimOf(1), 300);
        keep.go(1);
        Check.is("it was seen there", keep.aimOf(1), 300);
        keep.shout(1);
        Check.is("too far to hear", keep.aimOf(1), 300);
        keep.shout(30);
        Check.is("heard anew", keep.aimOf(1), 400);
    }

    /** A hero of speed 24 shouts at an end and steals round the corner ahead of the beast's first turn. */
    private static DelveKeep stolenAway(int speed, String... rows) {
        DelveKeep keep = Keeps.dug(rows);
        int place = keep.placeOf(0);
        keep.setHero(place / 100, place % 100, 24, 30);
        keep.addBeast(0, 0, speed, 0, 30);
        keep.begin(0);
        keep.shout(30);
        keep.go(2);
        keep.go(2);
        return keep;
    }

    /** "If it stands at its aim then, and its cell and the hero's do not see each other, it has no aim any more." */
    private static void aimsAreLostAtTheAim() {
        DelveKeep keep = stolenAway(6, "....@", "####.", "####.", "###..");
        keep.go(2);
        keep.go(3);
        for (int place = 100; place < 400; place += 100) {
            while (keep.placeOf(1) < place) {
                Check.is("on the way to " + place, keep.aimOf(1), 400);
                keep.rest();
            }
            Check.is("ahead of its aim, at " + place, keep.aimOf(1), 400);
        }
        while (keep.placeOf(1) < 400) {
            keep.rest();
        }
        Check.refused("at its aim", keep, NoSuchElementException.class, () -> keep.aimOf(1));
        Keeps.rest(keep, 12);
        Check.is("then it stays", keep.placeOf(1), 400);
    }

    private static void aimsAreKeptWhereTheHeroIsSeen() {
        DelveKeep keep = stolenAway(6, "....@", "####.", "####.");
        while (keep.placeOf(1) < 400) {
            Check.is("on the way", keep.aimOf(1), 400);
            keep.rest();
        }
        Check.is("at its aim, but it sees the hero", Keeps.aim(keep, 1), 400);
        Keeps.rest(keep, 4);
        Check.is("then the aim is what it sees", Keeps.aim(keep, 1), 402);
        Check.is("and it comes", keep.placeOf(1), 401);
    }

    /** A beast that hears a noise on its own cell: it stands at its aim, unless it flees from it. */
    private static void aimsAreLostWhereAPotionBroke() {
        DelveKeep calm = potionAtABeast('h', ".@....", ".....");
        Check.is("calm: it stays", calm.placeOf(1), 400);
        Check.is("calm: it has no aim any more", Keeps.aim(calm, 1), -1);
        DelveKeep afraid = potionAtABeast('d', ".@....", ".....");
        Check.is("afraid: it flees from its aim", afraid.placeOf(1), 500);
        Check.is("afraid: the aim is kept", Keeps.aim(afraid, 1), 400);
        DelveKeep back = potionAtABeast('d', ".@...", ".....");
        Check.is("afraid at an end: it flees where it can", back.placeOf(1), 300);
        Check.is("afraid at an end: the aim is kept", Keeps.aim(back, 1), 400);
    }

    private static DelveKeep potionAtABeast(char effect, String row, String rock) {
        DelveKeep keep = Keeps.dug(row, rock.replace('.', '#'));
        keep.dig(1, 1, '.');
        keep.setEffect(3, effect, 7, 0);
        keep.addThing(3, 1, 0, -1);
        keep.addBeast(4, 0, 3, 0, 9);
        keep.begin(0);
        keep.take(0);
        Check.is("it breaks at the beast", keep.hurl(0, 1), 3);
        Check.is("it is heard there", keep.aimOf(1), 400);
        keep.go(2);
        Check.is("out of sight", keep.see(1, 1, 4, 0), false);
        keep.rest();
        Check.is("behind its turn", keep.tick(), 5);
        return keep;
    }

    // ---- ways

    /** "The distance of a cell to the aim is the least number of steps": also over all of a long way. */
    private static void distancesAreLong() {
        int[] way = Keeps.winding();
        DelveKeep keep = Keeps.wound(way);
        keep.addBeast(way[30] / 100, way[30] % 100, 12, 0, 30);
        keep.begin(0);
        Check.is("heard 30 steps off", keep.shout(30), 1);
        for (int step = 29; step >= 1; step--) {
            Check.is("step " + step, keep.placeOf(1), way[step]);
            keep.rest();
        }
        Check.is("beside the hero it stays", keep.placeOf(1), way[1]);
        DelveKeep reach = Keeps.wound(way);
        reach.begin(0);
        for (int place : way) {
            Check.is("reachable " + place, reach.isReachable(place / 100, place % 100), true);
        }
    }

    /** A closed door is one step, as a free cell is: the way through doors is taken where it is the shorter one. */
    private static void distancesCountDoorsAsOne() {
        DelveKeep shorter = Keeps.dug("@++.", ".##.", "....");
        shorter.addBeast(3, 0, 12, 0, 1);
        shorter.begin(0);
        shorter.shout(30);
        Check.is("3 through two doors, 7 about", shorter.cell(2, 0), '/');
        DelveKeep equal = Keeps.dug(".+.", "@#.", "...");
        equal.setHero(0, 1, 12, 30);
        equal.addBeast(2, 1, 12, 0, 1);
        equal.begin(0);
        equal.shout(30);
        Check.is("4 both ways, the lowest is taken", equal.placeOf(1), 200);
        DelveKeep longer = Keeps.dug("@...", "+##+", "++++");
        longer.addBeast(3, 0, 12, 0, 1);
        longer.begin(0);
        longer.shout(30);
        Check.is("3 over floor, 7 through doors", longer.placeOf(1), 200);
        DelveKeep shut = Keeps.dug("@###", "+++.");
        shut.addBeast(3, 1, 12, 0, 1);
        shut.begin(0);
        Check.is("through doors alone it is heard", shut.shout(30), 1);
        Check.is("the last door is opened first", shut.cell(2, 1), '/');
        Check.is("the others are closed still", shut.cell(1, 1), '+');
    }

    /** "... over free cells and closed doors": never over locked ones, though their keys lie by. */
    private static void distancesLeaveLocksOut() {
        for (char lock : "012".toCharArray()) {
            DelveKeep keep = Keeps.dug("@" + lock + "..", "....");
            keep.addThing(lock - '0', 2, 0, -1);
            keep.addBeast(2, 0, 12, 0, 1);
            keep.begin(0);
            keep.shout(30);
            Check.is("round lock " + lock, keep.placeOf(1), 201);
            DelveKeep shut = Keeps.dug("@" + lock + "..");
            shut.addThing(lock - '0', 2, 0, -1);
            shut.addBeast(2, 0, 12, 0, 1);
            shut.begin(0);
            shut.shout(30);
            Keeps.rest(shut, 3);
            Check.is("stays behind lock " + lock, shut.placeOf(1), 200);
            Check.is("keeps its aim behind lock " + lock, Keeps.aim(shut, 1), 0);
            Check.is("opens no lock " + lock, shut.cell(1, 0), lock);
        }
    }

    /** "Of several cells, that by the lowest way is taken": for each two ways that are as near. */
    private static void lowestOfTheNearest() {
        int[][] cases = {{3, 4, 4, 3, 0, 0, 303}, {3, 4, 0, 0, 4, 4, 303}, {1, 1, 4, 4, 0, 0, 201},
            {3, 1, 0, 4, 0, 0, 302}, {2, 2, 0, 2, 1, 2, 201}, {2, 3, 2, 1, 2, 2, 303}};
        for (int[] row : cases) {
            DelveKeep keep = Keeps.dug(".....", ".....", ".....", ".....", ".....");
            keep.setHero(row[2], row[3], 12, 30);
            keep.addBeast(row[0], row[1], 12, 0, 1);
            keep.dig(row[4], row[5], '#');
            keep.begin(0);
            keep.shout(30);
            Check.is("from " + row[0] + " " + row[1] + " to " + row[2] + " " + row[3], keep.placeOf(1), row[6]);
        }
    }

    /** "... a free one without a living creature": the next nearest is taken, or none. */
    private static void takenCellsAreLeftOut() {
        DelveKeep keep = Keeps.dug("@..", "...");
        keep.addBeast(1, 0, 1, 0, 30);
        keep.addBeast(1, 1, 12, 0, 30);
        keep.begin(0);
        keep.rest();
        Check.is("way 0 is taken, way 3 is free", keep.placeOf(2), 1);
        DelveKeep both = Keeps.dug("@..", "...");
        both.addBeast(1, 0, 1, 0, 30);
        both.addBeast(0, 1, 1, 0, 30);
        both.addBeast(1, 1, 12, 0, 30);
        both.begin(0);
        Keeps.rest(both, 3);
        Check.is("both are taken", both.placeOf(3), 101);
        both.go(1);
        for (int blow = 0; blow < 9; blow++) {
            both.go(1);
        }
        Check.is("the cell of a dead one is taken", both.placeOf(3), 100);
    }

    /** "... or a closed door, which it opens in place of going" */
    private static void doorsAreOpenedInPlaceOfGoing() {
        DelveKeep keep = Keeps.dug("@.++.");
        keep.addBeast(4, 0, 12, 0, 1);
        keep.begin(0);
        keep.shout(30);
        String[] due = {".+/ 400", ".+/ 300", ".// 300", ".// 200", ".// 100", ".// 100"};
        for (int turn = 0; turn < due.length; turn++) {
            String got = "" + keep.cell(1, 0) + keep.cell(2, 0) + keep.cell(3, 0) + " " + keep.placeOf(1);
            Check.is("doors at turn " + turn, got, due[turn]);
            keep.rest();
        }
        DelveKeep hero = Keeps.dug(".+@");
        hero.addBeast(0, 0, 12, 5, 1);
        hero.begin(0);
        hero.shout(30);
        Check.is("a beast behind the hero's door opens it", hero.cell(1, 0), '/');
        Check.is("in place of going, too", hero.placeOf(1), 0);
        hero.rest();
        Check.is("then it goes", hero.placeOf(1), 100);
        hero.rest();
        Check.is("then it strikes", hero.healthOf(0), 25);
    }

    // ---- fear

    /** "If three times its health is less than what it had first, it flees": for all healths of all beasts. */
    private static void fleesBelowAThird() {
        for (int first = 1; first <= 30; first++) {
            for (int health = 1; health <= first; health++) {
                DelveKeep keep = weakened(first, health);
                boolean isAfraid = 3 * health < first;
                String label = "beast of " + health + " of " + first;
                Check.is(label, keep.healthOf(1), health);
                Check.is(label + ", place", keep.placeOf(1), isAfraid ? 200 : 100);
                Check.is(label + ", blow", keep.healthOf(0), isAfraid ? 30 : 29);
            }
        }
    }

    /** A beast beside the hero that potions have weakened, behind its first turn. */
    private static DelveKeep weakened(int first, int health) {
        DelveKeep keep = Keeps.dug("@..");
        int harm = first - health;
        keep.setEffect(3, 'd', Math.max(1, Math.min(20, harm)), 0);
        keep.setEffect(4, 'd', Math.max(1, harm - 20), 0);
        keep.addThing(3, 0, 0, -1);
        keep.addThing(4, 0, 0, -1);
        keep.addBeast(1, 0, 1, 1, first);
        keep.begin(0);
        keep.take(0);
        keep.take(1);
        if (harm > 0) {
            keep.hurl(0, 1);
        }
        if (harm > 20) {
            keep.hurl(1, 1);
        }
        while (keep.tick() < 13) {
            keep.rest();
        }
        return keep;
    }

    /** A beast of 9 that a potion leaves 1 or 2, in the middle of three by three cells, the hero to its left. */
    private static DelveKeep afraid(String... rows) {
        DelveKeep keep = Keeps.dug(rows);
        keep.setHero(0, 1, 12, 30);
        keep.setEffect(3, 'd', 7, 0);
        keep.addThing(3, 0, 1, -1);
        keep.addBeast(1, 1, 4, 9, 9);
        return keep;
    }

    private static int fledTo(DelveKeep keep) {
        keep.begin(0);
        keep.take(0);
        keep.hurl(0, 1);
        while (keep.tick() < 4) {
            keep.rest();
        }
        Check.is("it does not strike", keep.healthOf(0), 30);
        return keep.placeOf(1);
    }

    /** "... it goes to the free neighbouring cell without a living creature" */
    private static void fleesOverFreeCellsAlone() {
        for (char sign : "#.~+/012".toCharArray()) {
            boolean isFree = ".~/".indexOf(sign) >= 0;
            DelveKeep keep = afraid("###", ".." + sign, "###");
            Check.is("flees to " + sign, fledTo(keep), isFree ? 201 : 101);
            Check.is("opens nothing, " + sign, keep.cell(2, 1), sign);
        }
        DelveKeep taken = afraid("###", "...", "###");
        taken.addBeast(2, 1, 1, 0, 30);
        Check.is("not to a living creature", fledTo(taken), 101);
        DelveKeep other = afraid("#.#", "...", "#.#");
        other.addBeast(1, 0, 1, 0, 30);
        Check.is("past a living creature", fledTo(other), 201);
    }

    private static void fleesByTheLowestWay() {
        Check.is("of 0, 1 and 2", fledTo(afraid("#.#", "...", "#.#")), 100);
        Check.is("of 1 and 2", fledTo(afraid("###", "...", "#.#")), 201);
        Check.is("of 0 and 2", fledTo(afraid("#.#", "..#", "#.#")), 100);
        Check.is("of 0 and 1", fledTo(afraid("#.#", "...", "###")), 100);
        Check.is("2 alone", fledTo(afraid("###", "..#", "#.#")), 102);
        DelveKeep right = Keeps.dug("#.#", "...", "#.#");
        right.setHero(2, 1, 12, 30);
        right.setEffect(3, 'd', 7, 0);
        right.addThing(3, 2, 1, -1);
        right.addBeast(1, 1, 4, 9, 9);
        right.dig(1, 0, '#');
        right.begin(0);
        right.take(0);
        right.hurl(0, 3);
        right.rest();
        right.rest();
        Check.is("of 2 and 3", right.placeOf(1), 102);
    }

    /** "... if this is greater than that of its own cell, and does nothing if there is none" */
    private static void fleesNotAtAnEnd() {
        Check.is("no other cell", fledTo(afraid("##", "..", "##")), 101);
        DelveKeep ring = Keeps.dug("...", ".#.", "...");
        ring.setHero(0, 0, 12, 30);
        ring.setEffect(3, 'd', 7, 3);
        ring.addThing(3, 0, 0, -1);
        ring.addBeast(2, 2, 4, 9, 9);
        ring.begin(0);
        ring.take(0);
        ring.hurl(0, 3);
        Keeps.rest(ring, 8);
        Check.is("at the far side of a ring it stays", ring.placeOf(1), 202);
        Check.is("with its aim by ear", Keeps.aim(ring, 1), 0);
    }

    // ---- blows

    /** "Otherwise, if the hero is on a neighbouring cell, it strikes": by the four ways, and no others. */
    private static void strikesNeighboursAlone() {
        for (int dx = -2; dx <= 2; dx++) {
            for (int dy = -2; dy <= 2; dy++) {
                if (dx == 0 && dy == 0) {
                    continue;
                }
                DelveKeep keep = Keeps.open();
                keep.setHero(5, 5, 12, 30);
                keep.addBeast(5 + dx, 5 + dy, 12, 4, 1);
                keep.begin(0);
                keep.rest();
                boolean isBeside = Math.abs(dx) + Math.abs(dy) == 1;
                String label = "a beast off by " + dx + " " + dy;
                Check.is(label, keep.healthOf(0), isBeside ? 26 : 30);
                Check.is(label + " stays", keep.placeOf(1) == 505 + 100 * dx + dy, isBeside);
            }
        }
        for (int spot = 0; spot < 144; spot++) {
            strikesAround(spot / 12, spot % 12);
        }
        for (int way = 0; way < 4; way++) {
            DelveKeep keep = Keeps.open();
            keep.setHero(5, 5, 12, 30);
            keep.addBeast(5 + DX[way], 5 + DY[way], 1, 4, 4);
            keep.begin(0);
            for (int other = 0; other < 4; other++) {
                if (other != way) {
                    Check.is("past a beast " + other, keep.go(other), 'm');
                    Check.is("back " + other, keep.go((other + 2) % 4), 'm');
                }
            }
            Check.is("struck by way " + way, keep.go(way), 'a');
            Check.is("3 less by way " + way, keep.healthOf(1), 1);
        }
    }

    private static void strikesAround(int x, int y) {
        for (int dx = -1; dx <= 1; dx++) {
            for (int dy = -1; dy <= 1; dy++) {
                boolean isInside = Math.min(x + dx, y + dy) >= 0 && Math.max(x + dx, y + dy) <= 11;
                if ((dx != 0 || dy != 0) && isInside) {
                    DelveKeep keep = Keeps.open();
                    keep.setHero(x, y, 12, 30);
                    keep.addBeast(x + dx, y + dy, 12, 4, 1);
                    keep.begin(0);
                    keep.rest();
                    String label = "at " + x + " " + y + ", a beast off by " + dx + " " + dy;
                    Check.is(label, keep.healthOf(0), dx == 0 || dy == 0 ? 26 : 30);
                }
            }
        }
    }

    /** "A beast whose health is 0 or less is dead." */
    private static void deadAtZero() {
        for (int health = 1; health <= 8; health++) {
            DelveKeep keep = Keeps.dug("@..");
            keep.addThing(7, 0, 0, -1);
            keep.addBeast(1, 0, 1, 1, health);
            keep.begin(0);
            keep.take(0);
            Check.is("struck", keep.go(1), 'a');
            Check.is("what is left of " + health, keep.healthOf(1), health - 7);
            Check.is("share of " + health, keep.livingShare(), health <= 7 ? 0f : 1f);
            Check.is("mean of " + health, keep.meanHealth(), health <= 7 ? 30.0 : 15.5);
            Check.is("heard by the living of " + health, keep.shout(30), health <= 7 ? 0 : 1);
            Check.is("the way to the dead of " + health, keep.go(1), health <= 7 ? 'm' : 'a');
            Keeps.rest(keep, 12);
            Check.is("the dead stay", keep.placeOf(1), health <= 7 ? 100 : keep.placeOf(1));
            Check.is("the dead do not strike", keep.healthOf(0), 30);
        }
    }
}
