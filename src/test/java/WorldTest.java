/** Promises 9, 10, 20, 21 and 32: worlds that begin and end, time, names, bones and the log. */
public final class WorldTest {
    private static final Class<IndexOutOfBoundsException> NO_PLACE = IndexOutOfBoundsException.class;
    private static final Class<IllegalArgumentException> BAD = IllegalArgumentException.class;
    private static final Class<IllegalStateException> NOT_NOW = IllegalStateException.class;

    private WorldTest() {
    }

    public static void main(String[] args) {
        promise9Refuses();
        promise9WaitsForTheHero();
        promise9DealsNames();
        promise9StartsAsTold();
        promise10Leave();
        promise20State();
        promise21Tick();
        turnsByEnergy();
        hasteLasts();
        blindnessLasts();
        bonesLieWhereTheHeroDied();
        bonesKeepBags();
        bonesNeedAFreeCell();
        bonesOfTheLastHero();
        promise32IsSame();
        Check.end();
    }

    private static void promise9Refuses() {
        DelveKeep rock = new DelveKeep();
        Check.refused("P9 seed -1", rock, BAD, () -> rock.begin(-1));
        Check.refused("P9 hero in rock", rock, NOT_NOW, () -> rock.begin(0));
        for (char sign : "#+012".toCharArray()) {
            DelveKeep hero = Keeps.dug("" + sign);
            Check.refused("P9 hero on " + sign, hero, NOT_NOW, () -> hero.begin(0));
            DelveKeep beast = Keeps.dug("@" + sign + ".");
            beast.addBeast(2, 0, 1, 1, 1);
            beast.addBeast(1, 0, 1, 1, 1);
            Check.refused("P9 beast on " + sign, beast, NOT_NOW, () -> beast.begin(0));
        }
        for (char sign : ".~/".toCharArray()) {
            DelveKeep free = Keeps.dug("" + sign + sign);
            free.addBeast(1, 0, 1, 0, 1);
            Check.is("P9 free " + sign, free.begin(0), 1);
        }
        DelveKeep heroOnBeast = Keeps.dug("@.");
        heroOnBeast.addBeast(0, 0, 1, 1, 1);
        Check.refused("P9 beast on hero", heroOnBeast, NOT_NOW, () -> heroOnBeast.begin(0));
        DelveKeep beasts = Keeps.dug("@.");
        beasts.addBeast(1, 0, 1, 1, 1);
        beasts.addBeast(1, 0, 1, 1, 1);
        Check.refused("P9 beast on beast", beasts, NOT_NOW, () -> beasts.begin(0));
        DelveKeep on = Keeps.dug("@");
        Check.is("P9 greatest seed", on.begin(Integer.MAX_VALUE), 1);
        Check.refused("P9 on", on, NOT_NOW, () -> on.begin(0));
        Check.refused("P9 on, seed first", on, BAD, () -> on.begin(Integer.MIN_VALUE));
    }

    private static void promise9WaitsForTheHero() {
        int[] due = {12, 6, 4, 3, 3, 2, 2, 2, 2, 2, 2, 1, 1, 1, 1, 1, 1, 1, 1, 1, 1, 1, 1, 1};
        for (int speed = 1; speed <= 24; speed++) {
            DelveKeep keep = Keeps.dug("@");
            keep.setHero(0, 0, speed, 30);
            Check.is("P9 speed " + speed, keep.begin(0), due[speed - 1]);
            Check.is("P9 state", keep.state(), 'o');
        }
        DelveKeep killed = Keeps.dug("@.");
        killed.setHero(0, 0, 1, 5);
        killed.addBeast(1, 0, 24, 5, 1);
        killed.addThing(0, 0, 0, -1);
        Check.is("P9 killed ahead of the first turn", killed.begin(0), 1);
        Check.is("P9 dead", killed.state(), 'd');
        Check.is("P9 health", killed.healthOf(0), 0);
    }

    private static void promise9DealsNames() {
        int[][] looks = {{0, 1, 2}, {0, 2, 1}, {1, 0, 2}, {1, 2, 0}, {2, 0, 1}, {2, 1, 0}};
        for (int seed = 0; seed < 12; seed++) {
            DelveKeep keep = Keeps.dug("@");
            for (int kind = 0; kind < 8; kind++) {
                keep.addThing(kind, 0, 0, -1);
            }
            keep.begin(seed + 600);
            for (int kind = 0; kind < 8; kind++) {
                boolean isPotion = kind >= 3 && kind <= 5;
                int due = isPotion ? 100 + looks[seed % 6][kind - 3] : kind;
                Check.is("P9 seed " + seed + " kind " + kind, keep.nameOf(kind), due);
            }
        }
        DelveKeep keep = Keeps.dug("@");
        keep.addThing(3, 0, 0, -1);
        keep.begin(Integer.MAX_VALUE);
        Check.is("P9 greatest seed", keep.nameOf(0), 100);
        keep.take(0);
        keep.drink(0);
        Check.is("P9 known", keep.nameOf(0), 3);
        keep.leave();
        keep.begin(4);
        Check.is("P9 dealt anew", keep.nameOf(0), 102);
    }

    private static void promise9StartsAsTold() {
        DelveKeep keep = Keeps.dug("@+.");
        keep.setHero(0, 0, 12, 29);
        keep.addBeast(2, 0, 1, 0, 3);
        keep.setEffect(3, 'd', 20, 0);
        keep.setEffect(4, 'b', 20, 0);
        keep.setEffect(5, 's', 1, 0);
        for (int kind = 3; kind < 6; kind++) {
            keep.addThing(kind, 0, 0, -1);
        }
        String told = Keeps.all(keep);
        keep.begin(3);
        for (int thing = 0; thing < 3; thing++) {
            keep.take(thing);
        }
        keep.go(1);
        Check.is("P9 temper of a first world", keep.pray(), -1);
        keep.drink(0);
        keep.drink(1);
        keep.drink(2);
        keep.shout(30);
        keep.leave();
        keep.begin(3);
        Check.is("P9 tick anew", keep.tick(), 1);
        Check.is("P9 place anew", keep.placeOf(0), 0);
        Check.is("P9 health anew", keep.healthOf(0), 29);
        Check.is("P9 door anew", keep.cell(1, 0), '+');
        Check.is("P9 aim anew", Keeps.aim(keep, 1), -1);
        Check.is("P9 sight anew", keep.heroSees(1, 0), true);
        Check.is("P9 speed anew", keep.rest(), 2);
        Check.is("P9 temper anew", keep.pray(), -1);
        keep.take(1);
        keep.leave();
        keep.setKind(0, 1, false);
        Check.is("P9 all as told", Keeps.all(keep), told);
        keep.setEffect(5, 's', 4, 0);
        keep.begin(3);
        keep.take(2);
        keep.drink(2);
        Check.is("P9 slow", keep.rest(), 8);
        keep.leave();
        Check.is("P9 slow no more", keep.begin(3), 1);
        Check.is("P9 nor later", keep.rest(), 2);
    }

    private static void promise10Leave() {
        DelveKeep keep = Keeps.dug("@.");
        keep.addThing(7, 0, 0, -1);
        Check.refused("P10 none was on", keep, NOT_NOW, keep::leave);
        keep.begin(0);
        keep.take(0);
        keep.go(1);
        Check.is("P10 tick", keep.leave(), 3);
        Check.is("P10 state", keep.state(), 'l');
        Check.is("P10 still carried", keep.whereIs(0), -1);
        Check.is("P10 still there", keep.placeOf(0), 100);
        Check.is("P10 tick still", keep.tick(), 3);
        Check.refused("P10 left already", keep, NOT_NOW, keep::leave);
        keep.begin(0);
        Check.is("P10 no bones", keep.whereIs(0), 0);
        DelveKeep dead = dying("@", 0);
        Check.refused("P10 dead", dead, NOT_NOW, dead::leave);
    }

    private static void promise20State() {
        DelveKeep keep = Keeps.dug("@");
        Check.is("P20 none", keep.state(), 'n');
        Check.thrown("P20 refused", BAD, () -> keep.begin(-1));
        Check.is("P20 none yet", keep.state(), 'n');
        keep.begin(0);
        Check.is("P20 on", keep.state(), 'o');
        keep.rest();
        Check.is("P20 on still", keep.state(), 'o');
        keep.leave();
        Check.is("P20 left", keep.state(), 'l');
        keep.begin(1);
        Check.is("P20 on again", keep.state(), 'o');
        Check.is("P20 dead", dying("@", 0).state(), 'd');
        DelveKeep dead = dying("@", 0);
        dead.begin(0);
        Check.is("P20 on behind a death", dead.state(), 'o');
    }

    private static void promise21Tick() {
        DelveKeep keep = Keeps.dug("@");
        Check.is("P21 none", keep.tick(), 0);
        keep.setHero(0, 0, 5, 30);
        keep.begin(0);
        int[] due = {5, 8, 10, 12, 15, 17, 20, 22, 24, 27};
        Check.is("P21 begun", keep.tick(), 3);
        for (int turn = 0; turn < due.length; turn++) {
            Check.is("P21 turn " + turn, keep.rest(), due[turn]);
            Check.is("P21 tick " + turn, keep.tick(), due[turn]);
        }
        keep.leave();
        Check.is("P21 left", keep.tick(), 27);
        keep.dig(5, 5, '.');
        Check.is("P21 told again", keep.tick(), 0);
        DelveKeep quick = Keeps.dug("@");
        quick.setHero(0, 0, 24, 30);
        quick.begin(0);
        int[] twice = {1, 2, 2, 3, 3};
        for (int turn = 0; turn < twice.length; turn++) {
            Check.is("P21 quick turn " + turn, quick.rest(), twice[turn]);
        }
        DelveKeep dead = dying("@", 0);
        Check.is("P21 dead", dead.tick(), 2);
    }

    /** Both beasts want the cell beside the hero; who has its turn first gets it. */
    private static void turnsByEnergy() {
        int[][] cases = {{12, 12, 1}, {12, 13, 2}, {13, 12, 1}, {13, 13, 1}, {6, 12, 2}, {24, 23, 1}};
        for (int[] speeds : cases) {
            DelveKeep keep = Keeps.dug("@..", " . ");
            keep.addBeast(2, 0, speeds[0], 0, 1);
            keep.addBeast(1, 1, speeds[1], 0, 1);
            keep.begin(0);
            Keeps.rest(keep, 1);
            String label = "turns at " + speeds[0] + " and " + speeds[1];
            Check.is(label, keep.placeOf(speeds[2]), 100);
            Check.is(label + ", the other", keep.placeOf(3 - speeds[2]), speeds[2] == 1 ? 101 : 200);
        }
        DelveKeep equal = Keeps.dug("@.......");
        equal.addBeast(7, 0, 12, 0, 1);
        equal.begin(0);
        Check.is("the hero goes ahead of an equal beast", equal.placeOf(1), 700);
        equal.rest();
        Check.is("then the beast goes", equal.placeOf(1), 600);
        DelveKeep quicker = Keeps.dug("@.......");
        quicker.addBeast(7, 0, 13, 0, 1);
        quicker.begin(0);
        Check.is("a beast with more energy goes first", quicker.placeOf(1), 600);
        DelveKeep slow = Keeps.dug("@.......");
        slow.addBeast(7, 0, 4, 0, 1);
        slow.begin(0);
        int[] due = {700, 700, 700, 600, 600, 600, 500};
        for (int turn = 0; turn < due.length; turn++) {
            Check.is("a slow beast at turn " + turn, slow.placeOf(1), due[turn]);
            slow.rest();
        }
        DelveKeep dead = Keeps.dug("@.......");
        dead.addBeast(1, 0, 24, 1, 1);
        dead.begin(0);
        Check.is("struck ahead of the first turn", dead.healthOf(0), 29);
        dead.go(1);
        Check.is("a dead beast has no turns", dead.healthOf(0), 29);
        dead.rest();
        Check.is("nor later", dead.healthOf(0), 29);
    }

    private static void hasteLasts() {
        int[] slow = {3, 5, 7, 9, 11, 13, 14, 15};
        hasteCase(6, slow);
        int[] quick = {2, 3, 3, 4, 4, 5, 6, 6, 7, 7, 8, 9, 9, 10, 10, 11, 12, 12, 13, 13, 14, 15};
        hasteCase(20, quick);
        DelveKeep renewed = Keeps.dug("@");
        renewed.setEffect(3, 's', 6, 0);
        renewed.setEffect(4, 's', 4, 0);
        renewed.addThing(3, 0, 0, -1);
        renewed.addThing(4, 0, 0, -1);
        renewed.begin(0);
        renewed.take(0);
        renewed.take(1);
        renewed.drink(0);
        Check.is("haste, tick of the second", renewed.tick(), 5);
        renewed.drink(1);
        int[] due = {11, 14, 17, 18, 19};
        Check.is("haste renewed", renewed.tick(), 8);
        for (int turn = 0; turn < due.length; turn++) {
            Check.is("haste renewed, turn " + turn, renewed.rest(), due[turn]);
        }
        hasteOfABeast();
    }

    private static void hasteCase(int speed, int[] due) {
        DelveKeep keep = Keeps.dug("@");
        keep.setEffect(5, 's', speed, 0);
        keep.addThing(5, 0, 0, -1);
        keep.begin(0);
        keep.take(0);
        keep.drink(0);
        Check.is("haste " + speed + ", drunk", keep.tick(), due[0] + 1);
        for (int turn = 1; turn < due.length; turn++) {
            Check.is("haste " + speed + ", turn " + turn, keep.rest(), due[turn] + 1);
        }
    }

    private static void hasteOfABeast() {
        DelveKeep keep = Keeps.dug("@.....");
        keep.setEffect(5, 's', 1, 0);
        keep.addThing(5, 0, 0, -1);
        keep.addBeast(5, 0, 12, 0, 1);
        keep.begin(0);
        keep.take(0);
        Check.is("haste of a beast, flown", keep.hurl(0, 1), 4);
        Check.is("haste of a beast, its energy is kept", keep.placeOf(1), 300);
        Keeps.rest(keep, 11);
        Check.is("haste of a beast, slow", keep.placeOf(1), 300);
        Check.is("haste of a beast, tick", keep.tick(), 14);
        keep.rest();
        Check.is("haste of a beast, its slow turn", keep.placeOf(1), 200);
        keep.rest();
        Check.is("haste of a beast, over", keep.placeOf(1), 100);
    }

    private static void blindnessLasts() {
        boolean[] one = {true, true};
        blindCase(1, 12, one);
        boolean[] two = {false, true, true};
        blindCase(2, 12, two);
        boolean[] three = {false, false, true};
        blindCase(3, 12, three);
        boolean[] quick = {true, true};
        blindCase(1, 24, quick);
        blindnessEndsWithATick();
        DelveKeep keep = Keeps.dug("@.");
        keep.setEffect(3, 'b', 20, 0);
        keep.setEffect(4, 'b', 2, 0);
        keep.addThing(3, 0, 0, -1);
        keep.addThing(4, 0, 0, -1);
        keep.begin(0);
        keep.take(0);
        keep.take(1);
        keep.drink(0);
        Check.is("blind", keep.heroSees(1, 0), false);
        Check.is("blind, its own cell", keep.heroSees(0, 0), true);
        keep.drink(1);
        Check.is("blind anew", keep.heroSees(1, 0), false);
        keep.rest();
        Check.is("a further one takes the place of what lasts", keep.heroSees(1, 0), true);
    }

    private static void blindCase(int n, int speed, boolean[] sees) {
        DelveKeep keep = Keeps.dug("@.");
        keep.setHero(0, 0, speed, 30);
        keep.setEffect(4, 'b', n, 0);
        keep.addThing(4, 0, 0, -1);
        keep.begin(0);
        keep.take(0);
        Check.is("blind " + n + ", not yet", keep.heroSees(1, 0), true);
        keep.drink(0);
        for (int turn = 0; turn < sees.length; turn++) {
            Check.is("blind " + n + " at " + speed + ", turn " + turn, keep.heroSees(1, 0), sees[turn]);
            keep.rest();
        }
    }

    private static void blindnessEndsWithATick() {
        DelveKeep within = Keeps.dug("@.");
        within.setHero(0, 0, 24, 30);
        within.setEffect(4, 'b', 1, 0);
        within.addThing(4, 0, 0, -1);
        within.begin(0);
        within.take(0);
        within.rest();
        within.drink(0);
        Check.is("second turn of the tick", within.tick(), 2);
        Check.is("blind in the same tick", within.heroSees(1, 0), false);
        within.rest();
        Check.is("no longer blind in the next tick", within.heroSees(1, 0), true);
    }

    /** A keep whose hero goes east for some steps, carrying all its things, and drinks its death. */
    private static DelveKeep dying(String row, int steps) {
        DelveKeep keep = Keeps.dug(row);
        keep.setEffect(3, 'd', 20, 0);
        keep.setHero(0, 0, 12, 20);
        keep.addThing(3, 0, 0, -1);
        die(keep, steps);
        return keep;
    }

    private static void die(DelveKeep keep, int steps) {
        keep.begin(0);
        for (int thing = 0; thing < Keeps.things(keep); thing++) {
            if (keep.whereIs(thing) == keep.placeOf(0)) {
                keep.take(thing);
            }
        }
        for (int step = 0; step < steps; step++) {
            keep.go(1);
        }
        keep.drink(0);
    }

    private static void bonesLieWhereTheHeroDied() {
        DelveKeep keep = Keeps.dug("@....");
        keep.setHero(0, 0, 12, 20);
        keep.setEffect(3, 'd', 20, 0);
        keep.addThing(3, 0, 0, -1);
        keep.addThing(7, 0, 0, -1);
        keep.addThing(0, 4, 0, -1);
        die(keep, 3);
        Check.is("bones: dead", keep.state(), 'd');
        Check.is("bones: health", keep.healthOf(0), 0);
        Check.is("bones: laid down", keep.whereIs(1), 300);
        Check.is("bones: the potion is gone", keep.whereIs(0), -2);
        Check.thrown("bones: no world", NOT_NOW, keep::rest);
        for (int world = 0; world < 2; world++) {
            keep.begin(0);
            Check.is("bones: blade, world " + world, keep.whereIs(1), 300);
            Check.is("bones: potion as told, world " + world, keep.whereIs(0), 0);
            Check.is("bones: key as told, world " + world, keep.whereIs(2), 400);
            keep.leave();
        }
        keep.setKind(1, 1, false);
        Check.is("bones: as told", keep.whereIs(1), 0);
        keep.begin(0);
        Check.is("bones: told again, yet there", keep.whereIs(1), 300);
    }

    private static void bonesKeepBags() {
        DelveKeep keep = Keeps.dug("@...");
        keep.setHero(0, 0, 12, 20);
        keep.setEffect(3, 'd', 20, 0);
        keep.addThing(3, 0, 0, -1);
        keep.addThing(6, 0, 0, -1);
        keep.addThing(6, 0, 0, -1);
        keep.addThing(0, 0, 0, 1);
        keep.addThing(7, 0, 0, -1);
        keep.addThing(1, 0, 0, 2);
        keep.begin(0);
        for (int thing : new int[] {0, 1, 2, 4}) {
            keep.take(thing);
        }
        keep.pack(5, -1);
        keep.drop(5);
        keep.pack(1, 2);
        keep.pack(4, 1);
        keep.go(1);
        keep.drink(0);
        Check.is("bones: bag laid down", keep.whereIs(2), 100);
        Check.is("bones: bag in bag", keep.whereIs(1), -5);
        keep.begin(0);
        Check.is("bones: outer bag", keep.whereIs(2), 100);
        Check.is("bones: inner bag", keep.whereIs(1), -5);
        Check.is("bones: key in the inner bag", keep.whereIs(3), -4);
        Check.is("bones: blade in the inner bag", keep.whereIs(4), -4);
        Check.is("bones: what was dropped is as told", keep.whereIs(5), -5);
        Check.is("bones: weight", keep.weightOf(2), 5);
        Check.is("bones: the same again", keep.isSame(), true);
    }

    private static void bonesNeedAFreeCell() {
        DelveKeep keep = Keeps.dug("@+.");
        keep.setHero(0, 0, 12, 20);
        keep.setEffect(3, 'd', 20, 0);
        keep.addThing(3, 0, 0, -1);
        keep.addThing(7, 0, 0, -1);
        die(keep, 2);
        Check.is("bones: died in a door", keep.placeOf(0), 100);
        Check.is("bones: laid in the door", keep.whereIs(1), 100);
        keep.begin(0);
        Check.is("bones: not in a door that is told closed", keep.whereIs(1), 0);
        keep.leave();
        keep.dig(1, 0, '~');
        keep.begin(0);
        Check.is("bones: there as soon as it is free", keep.whereIs(1), 100);
        keep.leave();
        keep.dig(1, 0, '#');
        keep.begin(0);
        Check.is("bones: not in rock", keep.whereIs(1), 0);
    }

    private static void bonesOfTheLastHero() {
        DelveKeep keep = Keeps.dug("@....");
        keep.setHero(0, 0, 12, 20);
        keep.setEffect(3, 'd', 20, 0);
        keep.addThing(3, 0, 0, -1);
        keep.addThing(7, 0, 0, -1);
        keep.addThing(0, 0, 0, -1);
        die(keep, 2);
        keep.begin(0);
        keep.take(0);
        keep.go(1);
        keep.go(1);
        Check.is("bones: taken up", keep.take(1), 2);
        keep.leave();
        keep.begin(0);
        Check.is("bones: there until another hero dies", keep.whereIs(1), 200);
        keep.take(0);
        keep.go(1);
        keep.drink(0);
        keep.begin(0);
        Check.is("bones: the hero who died last had nothing", keep.whereIs(1), 0);
        Check.is("bones: nor the key", keep.whereIs(2), 0);
        DelveKeep lowest = Keeps.dug("@..");
        lowest.setHero(0, 0, 12, 20);
        lowest.setEffect(3, 'd', 20, 0);
        for (int thing = 0; thing < 24; thing++) {
            lowest.addThing(thing == 1 ? 3 : 0, 0, 0, -1);
        }
        lowest.begin(0);
        for (int thing : new int[] {0, 1, 23}) {
            lowest.take(thing);
        }
        lowest.go(1);
        lowest.drink(1);
        lowest.begin(0);
        Check.is("bones: the first thing", lowest.whereIs(0), 100);
        Check.is("bones: the last thing", lowest.whereIs(23), 100);
        Check.is("bones: another thing", lowest.whereIs(2), 0);
        DelveKeep early = Keeps.dug("@.");
        early.addThing(7, 0, 0, -1);
        early.setHero(0, 0, 1, 1);
        early.addBeast(1, 0, 24, 9, 1);
        early.begin(0);
        Check.is("bones: none for one who carried nothing", early.whereIs(0), 0);
    }

    private static void promise32IsSame() {
        DelveKeep keep = Keeps.dug("@+......", " .......");
        Check.refused("P32 none was on", keep, NOT_NOW, keep::isSame);
        keep.addThing(6, 0, 0, -1);
        keep.addThing(7, 0, 0, -1);
        keep.addThing(3, 0, 0, -1);
        keep.addThing(4, 0, 0, -1);
        keep.setEffect(3, 's', 20, 0);
        keep.setEffect(4, 'f', 1, 2);
        keep.setKind(7, 2, true);
        keep.addBeast(7, 0, 9, 1, 30);
        keep.begin(0);
        Check.is("P32 begun", keep.isSame(), true);
        for (int thing = 0; thing < 4; thing++) {
            keep.take(thing);
        }
        keep.pack(1, 0);
        keep.go(1);
        keep.go(0);
        Check.is("P32 on", keep.isSame(), true);
        Check.is("P32 asked twice", keep.isSame(), true);
        keep.go(1);
        keep.drink(2);
        keep.drop(0);
        keep.hurl(3, 1);
        keep.shout(9);
        keep.pray();
        keep.rest();
        String before = Keeps.all(keep);
        Check.is("P32 on still", keep.isSame(), true);
        Check.is("P32 changes nothing", Keeps.all(keep), before);
        keep.leave();
        Check.is("P32 left", keep.isSame(), true);
        keep.begin(1);
        Check.is("P32 another world", keep.isSame(), true);
        keep.leave();
        keep.dig(7, 7, '.');
        Check.refused("P32 told again", keep, NOT_NOW, keep::isSame);
        DelveKeep dead = dying("@...", 2);
        Check.is("P32 dead", dead.isSame(), true);
        Check.is("P32 dead, asked twice", dead.isSame(), true);
        dead.begin(0);
        Check.is("P32 with bones", dead.isSame(), true);
        dead.take(0);
        dead.drink(0);
        Check.is("P32 dead with bones", dead.isSame(), true);
        DelveKeep laden = Keeps.dug("@...");
        laden.setHero(0, 0, 12, 20);
        laden.setEffect(3, 'd', 20, 0);
        for (int kind : new int[] {3, 6, 7, 0}) {
            laden.addThing(kind, 0, 0, -1);
        }
        laden.begin(0);
        for (int thing = 0; thing < 4; thing++) {
            laden.take(thing);
        }
        laden.pack(2, 1);
        laden.go(1);
        laden.drink(0);
        Check.is("P32 dead, laden", laden.isSame(), true);
        laden.begin(0);
        laden.go(1);
        laden.take(1);
        Check.is("P32 the bones taken up", laden.isSame(), true);
        Check.thrown("P32 no place", NO_PLACE, () -> dead.cell(12, 0));
    }
}
