/** The edges of what the document says of names, the god, bones, states, the log and shares. */
public final class WorldEdgesTest {
    private static final Class<IllegalArgumentException> BAD = IllegalArgumentException.class;
    private static final Class<IllegalStateException> NOT_NOW = IllegalStateException.class;
    private static final int[][] LOOKS = {{0, 1, 2}, {0, 2, 1}, {1, 0, 2}, {1, 2, 0}, {2, 0, 1}, {2, 1, 0}};

    private WorldEdgesTest() {
    }

    public static void main(String[] args) {
        looksBeginAgainWithEachSixth();
        prayersBelowAThird();
        prayersWithATemper();
        temperOfBlowsAtAThird();
        temperOfThrowsAtAThird();
        temperOfOtherDeaths();
        temperBeginsAnew();
        bonesOfNoneToAll();
        bonesOfOneWhoCarriedNothing();
        bonesAreWhatWasCarried();
        bonesOnEachCell();
        bonesOnFreeCellsAlone();
        bonesOfTheLastAlone();
        bonesOfBagsInBags();
        bonesAndWhatIsToldLater();
        bonesWithHeavyThings();
        bonesNotFromLeaving();
        statesFollowEachOther();
        leavingAndDyingEndTheWorld();
        sameInEachState();
        sharesOfAllNumbers();
        meansOfAllNumbers();
        Check.end();
    }

    // ---- names

    /** "in the order that the seed, divided by 6, leaves as its rest" */
    private static void looksBeginAgainWithEachSixth() {
        int[] seeds = {0, 1, 2, 3, 4, 5, 6, 7, 8, 9, 10, 11, 12, 999, 1000000007, Integer.MAX_VALUE - 6,
            Integer.MAX_VALUE - 5, Integer.MAX_VALUE - 4, Integer.MAX_VALUE - 3, Integer.MAX_VALUE - 2,
            Integer.MAX_VALUE - 1, Integer.MAX_VALUE};
        DelveKeep keep = Keeps.dug("@");
        for (int kind = 0; kind < 8; kind++) {
            keep.addThing(kind, 0, 0, -1);
        }
        for (int seed : seeds) {
            keep.begin(seed);
            for (int kind = 0; kind < 8; kind++) {
                boolean isPotion = kind >= 3 && kind <= 5;
                int due = isPotion ? 100 + LOOKS[seed % 6][kind - 3] : kind;
                Check.is("seed " + seed + ", kind " + kind, keep.nameOf(kind), due);
            }
            keep.leave();
        }
        Check.refused("seed -1", keep, BAD, () -> keep.begin(-1));
        Check.refused("seed -6", keep, BAD, () -> keep.begin(-6));
        Check.refused("the least seed", keep, BAD, () -> keep.begin(Integer.MIN_VALUE));
    }

    // ---- the god

    /** A hero of a health that potions have harmed, whose temper is 0. */
    private static DelveKeep harmed(int first, int health) {
        DelveKeep keep = Keeps.dug("@.");
        keep.setHero(0, 0, 12, first);
        int harm = first - health;
        keep.setEffect(3, 'd', 20, 0);
        keep.setEffect(4, 'd', Math.max(1, harm % 20), 0);
        for (int thing = 0; thing < 5; thing++) {
            keep.addThing(thing == 0 ? 4 : 3, 0, 0, -1);
        }
        keep.begin(0);
        for (int thing = 0; thing < 5; thing++) {
            keep.take(thing);
        }
        if (harm % 20 > 0) {
            keep.drink(0);
        }
        for (int thing = 1; thing <= harm / 20; thing++) {
            keep.drink(thing);
        }
        Check.is("harmed", keep.healthOf(0), health);
        return keep;
    }

    /** "if three times the health is less than what it was first": on both sides of a third, for all healths. */
    private static void prayersBelowAThird() {
        for (int first = 1; first <= 99; first++) {
            int below = (first + 2) / 3 - 1;
            for (int health = Math.max(1, below); health <= Math.min(first, below + 1); health++) {
                DelveKeep keep = harmed(first, health);
                boolean isHeard = 3 * health < first;
                String label = "prayer with " + health + " of " + first;
                int tick = keep.tick();
                Check.is(label, keep.pray(), isHeard ? -5 : -1);
                Check.is(label + ", health", keep.healthOf(0), isHeard ? first : health);
                Check.is(label + ", a turn", keep.tick(), tick + 1);
            }
        }
    }

    /** "and the temper is at least 0 ...; otherwise, the temper is 1 less" */
    private static void prayersWithATemper() {
        for (int temper = -3; temper <= 0; temper++) {
            DelveKeep keep = Keeps.dug("@.");
            keep.setHero(0, 0, 12, 99);
            keep.setEffect(3, 'd', 20, 0);
            for (int thing = 0; thing < 4; thing++) {
                keep.addThing(3, 0, 0, -1);
            }
            keep.begin(0);
            for (int thing = 0; thing < 4; thing++) {
                keep.take(thing);
            }
            for (int prayer = 0; prayer > temper; prayer--) {
                Check.is("a prayer without need", keep.pray(), prayer - 1);
                Check.is("nothing is healed", keep.healthOf(0), 99);
            }
            for (int thing = 0; thing < 4; thing++) {
                keep.drink(thing);
            }
            Check.is("in need, temper " + temper, keep.pray(), temper == 0 ? -5 : temper - 1);
            Check.is("in need, temper " + temper + ", health", keep.healthOf(0), temper == 0 ? 99 : 19);
        }
        for (int killed = 0; killed <= 7; killed++) {
            DelveKeep keep = Keeps.dug("@.......");
            keep.setHero(0, 0, 12, 31);
            keep.setEffect(3, 'd', 20, 0);
            keep.setEffect(4, 'd', 1, 0);
            keep.addThing(3, 0, 0, -1);
            keep.addThing(4, 0, 0, -1);
            for (int beast = 1; beast <= killed; beast++) {
                keep.addBeast(beast, 0, 1, 0, 1);
            }
            keep.begin(0);
            keep.take(0);
            keep.take(1);
            for (int beast = 1; beast <= killed; beast++) {
                Check.is("killed " + beast, keep.go(1), 'a');
                Check.is("gone on " + beast, keep.go(1), 'm');
            }
            keep.drink(0);
            keep.drink(1);
            Check.is("10 of 31 is below a third", keep.pray(), killed - 5);
            Check.is("healed", keep.healthOf(0), 31);
        }
    }

    /** "2 less if the beast fled ahead of the blow by its health, and 1 more otherwise" */
    private static void temperOfBlowsAtAThird() {
        for (int first = 1; first <= 30; first++) {
            for (int health = 1; health <= Math.min(7, first); health++) {
                DelveKeep keep = besideABeast(first, health);
                keep.go(1);
                Check.is("killed", keep.healthOf(1), health - 7);
                boolean isAfraid = 3 * health < first;
                Check.is("a blow at " + health + " of " + first, keep.pray(), isAfraid ? -3 : 0);
            }
            if (first >= 8) {
                DelveKeep alive = besideABeast(first, 8);
                alive.go(1);
                Check.is("not killed", alive.healthOf(1), 1);
                Check.is("a blow at 8 of " + first, alive.pray(), -1);
            }
        }
    }

    private static void temperOfThrowsAtAThird() {
        for (int first = 1; first <= 30; first++) {
            for (int health = 1; health <= Math.min(4, first); health++) {
                DelveKeep keep = besideABeast(first, health);
                Check.is("thrown", keep.hurl(0, 1), 1);
                Check.is("killed", keep.healthOf(1), health - 4);
                boolean isAfraid = 3 * health < first;
                Check.is("a throw at " + health + " of " + first, keep.pray(), isAfraid ? -3 : 0);
            }
        }
        DelveKeep alive = besideABeast(5, 5);
        alive.hurl(0, 1);
        Check.is("a throw that does not kill", alive.pray(), -1);
    }

    /** A hero with a blade in the hands, beside a beast that potions have weakened, which has had no turn. */
    private static DelveKeep besideABeast(int first, int health) {
        DelveKeep keep = Keeps.dug("@.");
        int harm = first - health;
        keep.setEffect(3, 'd', Math.max(1, Math.min(20, harm)), 0);
        keep.setEffect(4, 'd', Math.max(1, harm - 20), 0);
        for (int kind : new int[] {7, 3, 4}) {
            keep.addThing(kind, 0, 0, -1);
        }
        keep.addBeast(1, 0, 1, 0, first);
        keep.begin(0);
        for (int thing = 0; thing < 3; thing++) {
            keep.take(thing);
        }
        if (harm > 0) {
            keep.hurl(1, 1);
        }
        if (harm > 20) {
            keep.hurl(2, 1);
        }
        Check.is("weakened", keep.healthOf(1), health);
        return keep;
    }

    private static void temperOfOtherDeaths() {
        DelveKeep keep = Keeps.dug("@..");
        keep.setEffect(3, 'd', 20, 1);
        keep.addThing(3, 0, 0, -1);
        keep.addBeast(1, 0, 1, 0, 20);
        keep.addBeast(2, 0, 1, 0, 1);
        keep.begin(0);
        keep.take(0);
        keep.hurl(0, 1);
        Check.is("two are dead", keep.livingShare(), 0f);
        Check.is("a potion is no blow", keep.pray(), -1);
    }

    /** "The temper is 0 at first": in each world. */
    private static void temperBeginsAnew() {
        DelveKeep keep = Keeps.dug("@.");
        keep.addBeast(1, 0, 1, 0, 1);
        for (int world = 0; world < 3; world++) {
            keep.begin(world);
            Check.is("prayer, world " + world, keep.pray(), -1);
            Check.is("prayer again, world " + world, keep.pray(), -2);
            keep.go(1);
            Check.is("prayer behind a blow, world " + world, keep.pray(), -2);
            keep.leave();
        }
    }

    // ---- bones

    /** The hero, of a health of 20, goes on from the left of a row, by some steps, and drinks a harm of 20. */
    private static void die(DelveKeep keep, int poison, int steps, int... taken) {
        keep.begin(0);
        keep.take(poison);
        for (int thing : taken) {
            keep.take(thing);
        }
        for (int step = 0; step < steps; step++) {
            if (keep.go(1) == 'o') {
                keep.go(1);
            }
        }
        Check.is("drunk", keep.drink(poison), 0);
        Check.is("dead", keep.state(), 'd');
    }

    /** Thing 0 is the harm. */
    private static DelveKeep mortal(String row, int... kinds) {
        DelveKeep keep = Keeps.dug(row);
        keep.setHero(0, 0, 12, 20);
        keep.setEffect(3, 'd', 20, 0);
        keep.addThing(3, 0, 0, -1);
        for (int kind : kinds) {
            keep.addThing(kind, 0, 0, -1);
        }
        return keep;
    }

    private static void bonesOfNoneToAll() {
        for (int carried = 0; carried <= 23; carried++) {
            DelveKeep keep = mortal("@...");
            int[] taken = new int[carried];
            for (int thing = 1; thing <= 23; thing++) {
                keep.addThing(thing % 2 == 0 ? 7 : 0, 0, 0, -1);
                if (thing <= carried) {
                    taken[thing - 1] = 24 - thing;
                }
            }
            die(keep, 0, 2, taken);
            for (int thing = 1; thing <= 23; thing++) {
                int due = thing >= 24 - carried ? 200 : 0;
                Check.is("dead with " + carried + ", thing " + thing, keep.whereIs(thing), due);
            }
            keep.begin(1);
            for (int thing = 0; thing <= 23; thing++) {
                int due = thing > 0 && thing >= 24 - carried ? 200 : 0;
                Check.is("bones of " + carried + ", thing " + thing, keep.whereIs(thing), due);
            }
        }
    }

    private static void bonesOfOneWhoCarriedNothing() {
        DelveKeep keep = mortal("@...", 7);
        die(keep, 0, 1, 1);
        keep.begin(0);
        Check.is("bones of one with a blade", keep.whereIs(1), 100);
        keep.leave();
        die(keep, 0, 2);
        keep.begin(0);
        Check.is("bones of one without", keep.whereIs(1), 0);
        DelveKeep early = Keeps.dug("@.");
        early.setHero(0, 0, 1, 1);
        early.addThing(7, 1, 0, -1);
        early.addBeast(1, 0, 12, 1, 1);
        early.begin(0);
        Check.is("dead ahead of a turn", early.state(), 'd');
        early.begin(0);
        Check.is("bones ahead of a turn", early.whereIs(0), 100);
        Check.is("dead again", early.state(), 'd');
    }

    /** What lies where the hero dies, but was not carried, is as told in the next world. */
    private static void bonesAreWhatWasCarried() {
        DelveKeep keep = mortal("@..", 7, 6, 0, 1, 2);
        keep.begin(0);
        for (int thing = 0; thing < 6; thing++) {
            keep.take(thing);
        }
        keep.pack(3, 2);
        keep.go(1);
        keep.drop(1);
        keep.pack(4, 2);
        keep.drop(2);
        keep.drink(0);
        int[] dead = {-2, 100, 100, -5, -5, 100};
        int[] anew = {0, 0, 0, 0, 0, 100};
        for (int thing = 0; thing < 6; thing++) {
            Check.is("dead beside it, thing " + thing, keep.whereIs(thing), dead[thing]);
        }
        keep.begin(0);
        for (int thing = 0; thing < 6; thing++) {
            Check.is("as told but for the hands, thing " + thing, keep.whereIs(thing), anew[thing]);
        }
    }

    /** The hero takes two things, goes a step and dies there: for each of the 144 cells. */
    private static void bonesOnEachCell() {
        for (int spot = 0; spot < 144; spot++) {
            int x = spot / 12;
            int y = spot % 12;
            int way = y < 11 ? 0 : 2;
            int fromY = y < 11 ? y + 1 : y - 1;
            DelveKeep keep = Keeps.open();
            keep.setHero(x, fromY, 12, 20);
            keep.setEffect(3, 'd', 20, 0);
            for (int kind : new int[] {3, 7, 6}) {
                keep.addThing(kind, x, fromY, -1);
            }
            keep.begin(0);
            for (int thing = 0; thing < 3; thing++) {
                keep.take(thing);
            }
            keep.go(way);
            keep.drink(0);
            Check.is("dead at " + x + " " + y, keep.whereIs(1), 100 * x + y);
            keep.begin(0);
            Check.is("bones at " + x + " " + y, keep.whereIs(1), 100 * x + y);
            Check.is("bones at " + x + " " + y + ", a bag", keep.whereIs(2), 100 * x + y);
            Check.is("as told at " + x + " " + y, keep.whereIs(0), 100 * x + fromY);
        }
    }

    /** "if the cell of the bones is free as told" */
    private static void bonesOnFreeCellsAlone() {
        for (char sign : "#.~+/012".toCharArray()) {
            boolean isFree = ".~/".indexOf(sign) >= 0;
            DelveKeep keep = mortal("@..", 7);
            die(keep, 0, 1, 1);
            keep.dig(1, 0, sign);
            Check.is("as told, " + sign, keep.whereIs(1), 0);
            keep.begin(0);
            Check.is("bones on " + sign, keep.whereIs(1), isFree ? 100 : 0);
            keep.leave();
            keep.dig(1, 0, '.');
            keep.begin(0);
            Check.is("bones on a floor, once " + sign, keep.whereIs(1), 100);
        }
        DelveKeep door = mortal("@+.", 7);
        die(door, 0, 1, 1);
        Check.is("dead in an open door", door.cell(1, 0), '/');
        Check.is("it lies in the door", door.whereIs(1), 100);
        door.begin(0);
        Check.is("a door that is closed as told", door.whereIs(1), 0);
        door.go(1);
        Check.is("opening it brings nothing", door.whereIs(1), 0);
    }

    /** "each time until another hero dies", "things that the hero who died last carried" */
    private static void bonesOfTheLastAlone() {
        DelveKeep keep = mortal("@....", 7, 0, 1);
        die(keep, 0, 1, 1, 2);
        for (int world = 0; world < 3; world++) {
            keep.begin(world);
            Check.is("blade, world " + world, keep.whereIs(1), 100);
            Check.is("key, world " + world, keep.whereIs(2), 100);
            Check.is("another key, world " + world, keep.whereIs(3), 0);
            keep.go(1);
            keep.take(1);
            keep.go(1);
            keep.drop(1);
            keep.leave();
        }
        keep.begin(0);
        keep.take(0);
        keep.take(3);
        keep.go(1);
        keep.take(2);
        keep.go(1);
        keep.go(1);
        keep.drink(0);
        Check.is("another hero is dead", keep.state(), 'd');
        Check.is("what lay elsewhere stays there", keep.whereIs(1), 100);
        for (int world = 0; world < 2; world++) {
            keep.begin(world);
            Check.is("the first hero's blade is as told", keep.whereIs(1), 0);
            Check.is("the key of both", keep.whereIs(2), 300);
            Check.is("the last hero's key", keep.whereIs(3), 300);
            Check.is("the harm is as told", keep.whereIs(0), 0);
            keep.leave();
        }
    }

    /** "those in the hands lie there, and those in bags are in these bags as they were" */
    private static void bonesOfBagsInBags() {
        DelveKeep keep = mortal("@..");
        for (int bag = 1; bag < 23; bag++) {
            keep.addThing(6, 0, 0, bag == 1 ? -1 : bag - 1);
        }
        keep.addThing(0, 0, 0, 22);
        die(keep, 0, 1, 1);
        Check.is("the outermost lies", keep.whereIs(1), 100);
        Check.is("the innermost is in its bag", keep.whereIs(23), -25);
        keep.begin(0);
        Check.is("bones: the outermost lies", keep.whereIs(1), 100);
        for (int thing = 2; thing <= 23; thing++) {
            Check.is("bones: thing " + thing, keep.whereIs(thing), -3 - (thing - 1));
        }
        Check.is("bones: weight", keep.weightOf(1), 23);
        Check.is("bones: same", keep.isSame(), true);
        DelveKeep turned = mortal("@..", 6, 6, 7);
        turned.addThing(0, 0, 0, 1);
        turned.begin(0);
        for (int thing = 0; thing < 4; thing++) {
            turned.take(thing);
        }
        turned.pack(4, -1);
        turned.pack(1, 2);
        turned.pack(3, 1);
        turned.drop(4);
        turned.go(1);
        turned.drink(0);
        turned.begin(0);
        int[] due = {0, -5, 100, -4, -4};
        for (int thing = 0; thing < due.length; thing++) {
            Check.is("bones turned about: thing " + thing, turned.whereIs(thing), due[thing]);
        }
        turned.leave();
        turned.dig(1, 0, '#');
        turned.begin(0);
        int[] told = {0, 0, 0, 0, -4};
        for (int thing = 0; thing < told.length; thing++) {
            Check.is("bones in rock: thing " + thing, turned.whereIs(thing), told[thing]);
        }
    }

    private static void bonesAndWhatIsToldLater() {
        DelveKeep keep = mortal("@...", 6);
        die(keep, 0, 2, 1);
        Check.is("a thing told behind the death, in a bag", keep.addThing(7, 0, 0, 1), 2);
        Check.is("a thing told behind the death", keep.addThing(7, 0, 0, -1), 3);
        Check.is("as told", keep.whereIs(1), 0);
        keep.begin(0);
        Check.is("the bag lies by the bones", keep.whereIs(1), 200);
        Check.is("what was told into it is in it", keep.whereIs(2), -4);
        Check.is("what was told besides is as told", keep.whereIs(3), 0);
        keep.leave();
        keep.setHero(3, 0, 12, 20);
        keep.addBeast(2, 0, 1, 0, 3);
        keep.begin(0);
        Check.is("a beast may stand on the bones", keep.whereIs(1), 200);
        keep.go(3);
        keep.go(3);
        Check.is("the bones are taken up", keep.take(1), 2);
        Check.is("same", keep.isSame(), true);
    }

    /** What lies by the bones may be heavier than what can be carried, as weights are told anew. */
    private static void bonesWithHeavyThings() {
        DelveKeep keep = mortal("@..", 6, 7, 7, 7);
        die(keep, 0, 1, 1, 2, 3, 4);
        keep.setKind(7, 9, false);
        keep.setKind(6, 4, false);
        keep.begin(0);
        keep.go(1);
        Check.is("three of them", keep.take(2) + keep.take(3) + keep.take(4), 9 + 18 + 27);
        Check.refused("31", keep, UnsupportedOperationException.class, () -> keep.take(1));
    }

    /** "Ends the world without bones." */
    private static void bonesNotFromLeaving() {
        DelveKeep keep = mortal("@..", 7);
        keep.begin(0);
        keep.take(1);
        keep.go(1);
        keep.leave();
        Check.is("left with the blade", keep.whereIs(1), -1);
        keep.begin(0);
        Check.is("no bones", keep.whereIs(1), 0);
        keep.leave();
        die(keep, 0, 2, 1);
        keep.begin(0);
        keep.leave();
        keep.begin(0);
        Check.is("bones stay through leaving", keep.whereIs(1), 200);
    }

    // ---- states and the log

    private static void statesFollowEachOther() {
        DelveKeep keep = mortal("@..");
        Check.is("no world was on", keep.state(), 'n');
        Check.refused("leave, none", keep, NOT_NOW, keep::leave);
        for (int world = 0; world < 3; world++) {
            keep.begin(world);
            Check.is("one is on", keep.state(), 'o');
            Check.refused("begin, on", keep, NOT_NOW, () -> keep.begin(0));
            keep.leave();
            Check.is("left", keep.state(), 'l');
            Check.refused("leave, left", keep, NOT_NOW, keep::leave);
            die(keep, 0, world % 2);
            Check.is("dead", keep.state(), 'd');
            Check.refused("leave, dead", keep, NOT_NOW, keep::leave);
            keep.begin(world);
            Check.is("on behind a death", keep.state(), 'o');
            keep.leave();
            if (world == 1) {
                keep.addLamp(0, 0, 0);
                Check.is("told again", keep.state(), 'n');
            }
        }
    }

    private static void leavingAndDyingEndTheWorld() {
        for (int end = 0; end < 2; end++) {
            DelveKeep keep = mortal("@..", 4, 6);
            keep.begin(0);
            keep.take(0);
            keep.take(1);
            keep.take(2);
            int tick = end == 0 ? keep.leave() : keep.drink(0) + keep.tick();
            String label = end == 0 ? "left" : "dead";
            Check.is(label + ", tick", keep.tick(), tick);
            Check.refused(label + ", go", keep, NOT_NOW, () -> keep.go(1));
            Check.refused(label + ", rest", keep, NOT_NOW, keep::rest);
            Check.refused(label + ", take", keep, NOT_NOW, () -> keep.take(1));
            Check.refused(label + ", drop", keep, NOT_NOW, () -> keep.drop(1));
            Check.refused(label + ", pack", keep, NOT_NOW, () -> keep.pack(1, 2));
            Check.refused(label + ", drink", keep, NOT_NOW, () -> keep.drink(1));
            Check.refused(label + ", hurl", keep, NOT_NOW, () -> keep.hurl(1, 1));
            Check.refused(label + ", shout", keep, NOT_NOW, () -> keep.shout(1));
            Check.refused(label + ", pray", keep, NOT_NOW, keep::pray);
            Check.refused(label + ", heroSees", keep, NOT_NOW, () -> keep.heroSees(0, 0));
            Check.refused(label + ", nameOf", keep, NOT_NOW, () -> keep.nameOf(1));
            Check.refused(label + ", isReachable", keep, NOT_NOW, () -> keep.isReachable(0, 0));
            Check.is(label + ", isSame", keep.isSame(), true);
        }
    }

    private static void sameInEachState() {
        DelveKeep keep = mortal("@+..", 6, 7, 0);
        keep.addBeast(3, 0, 5, 1, 9);
        Check.refused("same, told", keep, NOT_NOW, keep::isSame);
        for (int world = 0; world < 6; world++) {
            keep.begin(world);
            Check.is("same, begun " + world, keep.isSame(), true);
            keep.shout(30);
            for (int thing = 1; thing <= 3; thing++) {
                if (keep.whereIs(thing) == keep.placeOf(0)) {
                    keep.take(thing);
                }
            }
            keep.go(1);
            keep.go(1);
            Check.is("same, on " + world, keep.isSame(), true);
            Check.is("same, on and asked again " + world, keep.isSame(), true);
            if (world % 2 == 0) {
                keep.leave();
                Check.is("same, left " + world, keep.isSame(), true);
            } else {
                keep.leave();
                die(keep, 0, 1, 1);
                Check.is("same, dead " + world, keep.isSame(), true);
                Check.is("same, dead and asked again " + world, keep.isSame(), true);
            }
        }
        keep.dig(11, 11, '.');
        Check.refused("same, told again", keep, NOT_NOW, keep::isSame);
        keep.begin(0);
        Check.is("same, begun as told again", keep.isSame(), true);
    }

    // ---- shares

    /** "their number divided by that of all beasts, both converted to float": for 1 to 7 beasts. */
    private static void sharesOfAllNumbers() {
        for (int beasts = 1; beasts <= 7; beasts++) {
            for (int living = 0; living <= beasts; living++) {
                DelveKeep keep = Keeps.open();
                keep.setEffect(3, 'd', 20, 3);
                keep.addThing(3, 0, 0, -1);
                for (int beast = 1; beast <= beasts; beast++) {
                    keep.addBeast(1 + beast, beast <= living ? 9 : 2, 1, 0, 20);
                }
                Check.is("share as told", keep.livingShare(), 1f);
                keep.begin(0);
                keep.take(0);
                keep.hurl(0, 1);
                Check.is("share of " + living + " of " + beasts, keep.livingShare(), (float) living / (float) beasts);
                Check.is("mean of " + living, keep.meanHealth(), (30.0 + 20.0 * living) / (1.0 + living));
            }
        }
    }

    /** "the creatures that live, the hero included" */
    private static void meansOfAllNumbers() {
        DelveKeep keep = Keeps.open();
        Check.is("the hero alone", keep.meanHealth(), 30.0);
        keep.setHero(0, 0, 12, 99);
        double sum = 99;
        for (int beast = 1; beast <= 7; beast++) {
            keep.addBeast(beast, 11, 1, 0, 31 - beast);
            sum += 31 - beast;
            Check.is("mean with " + beast, keep.meanHealth(), sum / (beast + 1));
        }
        DelveKeep least = Keeps.open();
        least.setHero(0, 0, 12, 1);
        for (int beast = 1; beast <= 2; beast++) {
            least.addBeast(beast, 11, 1, 0, beast);
        }
        Check.is("the mean of 1, 1 and 2", least.meanHealth(), 4.0 / 3.0);
        DelveKeep below = mortal("@.");
        below.setEffect(3, 'd', 20, 1);
        below.addBeast(1, 0, 1, 0, 7);
        below.addBeast(11, 11, 1, 0, 30);
        below.dig(11, 11, '.');
        below.begin(0);
        below.take(0);
        below.hurl(0, 1);
        Check.is("the hero is dead", below.state(), 'd');
        Check.is("less than 0 does not count", below.meanHealth(), 30.0);
        Check.is("one of two", below.livingShare(), 0.5f);
    }
}
