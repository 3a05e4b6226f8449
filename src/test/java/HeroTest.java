import java.util.NoSuchElementException;

/** Promises 11 to 19: what the hero does. */
public final class HeroTest {
    private static final Class<IndexOutOfBoundsException> NO_THING = IndexOutOfBoundsException.class;
    private static final Class<IllegalArgumentException> BAD = IllegalArgumentException.class;
    private static final Class<IllegalStateException> NOT_NOW = IllegalStateException.class;
    private static final Class<NoSuchElementException> NOT_THERE = NoSuchElementException.class;
    private static final Class<UnsupportedOperationException> CANNOT = UnsupportedOperationException.class;

    private HeroTest() {
    }

    public static void main(String[] args) {
        promise11GoesOverCells();
        promise11OpensDoors();
        promise11Strikes();
        promise11Refuses();
        promise12Rest();
        promise13Take();
        promise14Drop();
        promise15Pack();
        promise15Refuses();
        promise16Drink();
        promise16Effects();
        promise17Hurl();
        promise17Breaks();
        promise17Strikes();
        fireBurnsByRisingNumbers();
        promise18Shout();
        promise19Pray();
        promise19Temper();
        Check.end();
    }

    /** A keep of one row with a world on, in whose first cell all the things lie that are told. */
    private static DelveKeep with(String row, int... kinds) {
        DelveKeep keep = Keeps.dug(row);
        for (int kind : kinds) {
            keep.addThing(kind, 0, 0, -1);
        }
        return keep;
    }

    private static void takeAll(DelveKeep keep) {
        for (int thing = 0; thing < Keeps.things(keep); thing++) {
            if (keep.whereIs(thing) == keep.placeOf(0)) {
                keep.take(thing);
            }
        }
    }

    private static void promise11GoesOverCells() {
        DelveKeep keep = Keeps.dug("#~#", "/@.", "#.#");
        keep.begin(0);
        int[] there = {100, 201, 102, 1};
        for (int way = 0; way < 4; way++) {
            Check.is("P11 way " + way, keep.go(way), 'm');
            Check.is("P11 place of way " + way, keep.placeOf(0), there[way]);
            int tick = keep.tick();
            Check.is("P11 rock beside way " + way, keep.go((way + 1) % 4), 'b');
            Check.is("P11 no turn beside way " + way, keep.tick(), tick);
            Check.is("P11 stays " + way, keep.placeOf(0), there[way]);
            Check.is("P11 back " + way, keep.go((way + 2) % 4), 'm');
            Check.is("P11 a turn " + way, keep.tick(), tick + 1);
        }
        int[][] corners = {{0, 0, 0, 3}, {11, 0, 0, 1}, {0, 11, 2, 3}, {11, 11, 1, 2}};
        for (int[] corner : corners) {
            DelveKeep edge = Keeps.open();
            edge.setHero(corner[0], corner[1], 12, 30);
            edge.begin(0);
            Check.is("P11 edge by " + corner[2], edge.go(corner[2]), 'b');
            Check.is("P11 edge by " + corner[3], edge.go(corner[3]), 'b');
            Check.is("P11 edge, no turn", edge.tick(), 1);
            Check.is("P11 edge, stays", edge.placeOf(0), 100 * corner[0] + corner[1]);
            Check.is("P11 edge, same", edge.isSame(), true);
        }
    }

    private static void promise11OpensDoors() {
        DelveKeep keep = with("@+.", 7);
        keep.begin(0);
        Check.is("P11 opens", keep.go(1), 'o');
        Check.is("P11 open door", keep.cell(1, 0), '/');
        Check.is("P11 stays ahead of it", keep.placeOf(0), 0);
        Check.is("P11 opening is a turn", keep.tick(), 2);
        Check.is("P11 goes into it", keep.go(1), 'm');
        for (int lock = 0; lock < 3; lock++) {
            DelveKeep locked = with("@" + lock + ".", lock, (lock + 1) % 3, (lock + 2) % 3, 6, 6);
            locked.begin(0);
            Check.is("P11 key lies " + lock, locked.go(1), 'b');
            Check.is("P11 still locked", locked.cell(1, 0), (char) ('0' + lock));
            locked.take(1);
            locked.take(2);
            locked.take(3);
            Check.is("P11 other keys " + lock, locked.go(1), 'b');
            Check.is("P11 no turn", locked.tick(), 4);
            locked.take(0);
            locked.take(4);
            locked.pack(0, 3);
            locked.pack(3, 4);
            locked.drop(4);
            Check.is("P11 key in a bag that lies " + lock, locked.go(1), 'b');
            locked.take(4);
            Check.is("P11 key in a bag in a bag " + lock, locked.go(1), 'o');
            Check.is("P11 open " + lock, locked.cell(1, 0), '/');
            Check.is("P11 the key is kept", locked.whereIs(0), -6);
            DelveKeep hands = with("@" + lock, lock);
            hands.begin(0);
            hands.take(0);
            Check.is("P11 key in the hands " + lock, hands.go(1), 'o');
        }
    }

    private static void promise11Strikes() {
        DelveKeep keep = with("@.", 7, 6);
        keep.addBeast(1, 0, 1, 0, 30);
        keep.begin(0);
        Check.is("P11 strikes", keep.go(1), 'a');
        Check.is("P11 3 less", keep.healthOf(1), 27);
        Check.is("P11 stays", keep.placeOf(0), 0);
        Check.is("P11 a blow is a turn", keep.tick(), 2);
        keep.take(0);
        keep.go(1);
        Check.is("P11 7 less with a blade", keep.healthOf(1), 20);
        keep.take(1);
        keep.pack(0, 1);
        keep.go(1);
        Check.is("P11 3 less with a blade in a bag", keep.healthOf(1), 17);
        keep.pack(0, -1);
        keep.drop(0);
        keep.go(1);
        Check.is("P11 3 less with a blade that lies", keep.healthOf(1), 14);
        DelveKeep dying = Keeps.dug("@.");
        dying.addBeast(1, 0, 1, 0, 4);
        dying.begin(0);
        dying.go(1);
        Check.is("P11 1 left", dying.healthOf(1), 1);
        Check.is("P11 strikes again", dying.go(1), 'a');
        Check.is("P11 less than 0", dying.healthOf(1), -2);
        Check.is("P11 over the dead", dying.go(1), 'm');
        Check.is("P11 where it lies", dying.placeOf(0), dying.placeOf(1));
        DelveKeep zero = Keeps.dug("@.");
        zero.addBeast(1, 0, 1, 0, 3);
        zero.begin(0);
        zero.go(1);
        Check.is("P11 dead at 0", zero.go(1), 'm');
    }

    private static void promise11Refuses() {
        DelveKeep keep = Keeps.dug("@.");
        Check.refused("P11 no world", keep, NOT_NOW, () -> keep.go(1));
        Check.refused("P11 no world, way first", keep, BAD, () -> keep.go(4));
        keep.begin(0);
        Check.refused("P11 way -1", keep, BAD, () -> keep.go(-1));
        Check.refused("P11 way 4", keep, BAD, () -> keep.go(4));
        Check.refused("P11 least way", keep, BAD, () -> keep.go(Integer.MIN_VALUE));
        keep.leave();
        Check.refused("P11 left", keep, NOT_NOW, () -> keep.go(1));
    }

    private static void promise12Rest() {
        DelveKeep keep = Keeps.dug("@.");
        Check.refused("P12 no world", keep, NOT_NOW, keep::rest);
        keep.setHero(0, 0, 6, 10);
        keep.addBeast(1, 0, 12, 3, 1);
        Check.is("P12 begun", keep.begin(0), 2);
        Check.is("P12 struck once so far", keep.healthOf(0), 7);
        Check.is("P12 tick then", keep.rest(), 4);
        Check.is("P12 others acted", keep.healthOf(0), 1);
        Check.is("P12 tick of the death", keep.rest(), 4);
        Check.is("P12 dead", keep.state(), 'd');
        Check.refused("P12 dead", keep, NOT_NOW, keep::rest);
    }

    private static void promise13Take() {
        DelveKeep keep = Keeps.dug("@.");
        keep.setKind(7, 9, false);
        keep.setKind(0, 8, false);
        keep.setKind(1, 4, false);
        for (int thing = 0; thing < 3; thing++) {
            keep.addThing(7, 0, 0, -1);
        }
        keep.addThing(6, 0, 0, -1);
        keep.addThing(1, 0, 0, 3);
        keep.addThing(2, 0, 0, -1);
        keep.addThing(2, 0, 0, -1);
        keep.addThing(2, 0, 0, -1);
        keep.addThing(0, 1, 0, -1);
        Check.refused("P13 no world", keep, NOT_NOW, () -> keep.take(0));
        Check.refused("P13 no world, thing first", keep, NO_THING, () -> keep.take(9));
        keep.begin(0);
        Check.refused("P13 thing -1", keep, NO_THING, () -> keep.take(-1));
        Check.refused("P13 thing 9", keep, NO_THING, () -> keep.take(9));
        Check.refused("P13 elsewhere", keep, NOT_THERE, () -> keep.take(8));
        Check.refused("P13 in a bag", keep, NOT_THERE, () -> keep.take(4));
        Check.is("P13 first", keep.take(0), 9);
        Check.is("P13 a turn", keep.tick(), 2);
        Check.is("P13 carried", keep.whereIs(0), -1);
        Check.refused("P13 carried already", keep, NOT_THERE, () -> keep.take(0));
        Check.is("P13 second", keep.take(1), 18);
        Check.is("P13 bag with what is in it", keep.take(3), 23);
        Check.refused("P13 too heavy", keep, CANNOT, () -> keep.take(2));
        Check.refused("P13 in a bag that is carried", keep, NOT_THERE, () -> keep.take(4));
        keep.go(1);
        Check.refused("P13 31 is too heavy", keep, CANNOT, () -> keep.take(8));
        Check.refused("P13 too heavy, but not there", keep, NOT_THERE, () -> keep.take(2));
        keep.go(3);
        Check.is("P13 24", keep.take(5), 24);
        keep.drop(3);
        Check.is("P13 28", keep.take(2), 28);
        Check.is("P13 29", keep.take(6), 29);
        Check.is("P13 30 can be carried", keep.take(7), 30);
        Check.is("P13 same", keep.isSame(), true);
    }

    private static void promise14Drop() {
        DelveKeep keep = with("@.", 6, 7, 0);
        keep.addThing(1, 0, 0, 0);
        Check.refused("P14 no world", keep, NOT_NOW, () -> keep.drop(0));
        Check.refused("P14 no world, thing first", keep, NO_THING, () -> keep.drop(4));
        keep.begin(0);
        keep.take(0);
        keep.take(1);
        keep.go(1);
        Check.refused("P14 thing -1", keep, NO_THING, () -> keep.drop(-1));
        Check.refused("P14 lies", keep, NOT_THERE, () -> keep.drop(2));
        Check.refused("P14 in a bag", keep, NOT_THERE, () -> keep.drop(3));
        Check.is("P14 bag and all", keep.drop(0), 1);
        Check.is("P14 lies there", keep.whereIs(0), 100);
        Check.is("P14 still in it", keep.whereIs(3), -3);
        Check.is("P14 a turn", keep.tick(), 5);
        Check.refused("P14 dropped already", keep, NOT_THERE, () -> keep.drop(0));
        Check.is("P14 nothing left", keep.drop(1), 0);
    }

    private static void promise15Pack() {
        DelveKeep keep = with("@.", 6, 6, 7, 0);
        keep.begin(0);
        takeAll(keep);
        Check.is("P15 into a bag", keep.pack(2, 0), 1);
        Check.is("P15 it is there", keep.whereIs(2), -3);
        Check.is("P15 a turn", keep.tick(), 6);
        Check.is("P15 bag into bag", keep.pack(1, 0), 2);
        Check.is("P15 into the inner bag", keep.pack(3, 1), 1);
        Check.is("P15 only what is right in it", keep.pack(2, 0), 2);
        Check.is("P15 from bag to bag", keep.pack(2, 1), 2);
        Check.is("P15 into the hands", keep.pack(3, -1), 2);
        Check.is("P15 in the hands", keep.whereIs(3), -1);
        Check.is("P15 from the hands into the hands", keep.pack(3, -1), 2);
        Check.is("P15 the whole weight", keep.weightOf(0), 3);
        keep.pack(1, -1);
        Check.is("P15 the other way about", keep.pack(0, 1), 2);
        Check.is("P15 now in it", keep.whereIs(0), -4);
        Check.is("P15 same", keep.isSame(), true);
    }

    private static void promise15Refuses() {
        DelveKeep keep = with("@.", 6, 6, 7, 6, 0);
        keep.addThing(6, 0, 0, 0);
        Check.refused("P15 no world", keep, NOT_NOW, () -> keep.pack(0, 1));
        Check.refused("P15 no world, thing first", keep, NO_THING, () -> keep.pack(6, 1));
        Check.refused("P15 no world, bag first", keep, NO_THING, () -> keep.pack(0, 6));
        keep.begin(0);
        keep.take(0);
        keep.take(2);
        Check.refused("P15 thing -1", keep, NO_THING, () -> keep.pack(-1, 0));
        Check.refused("P15 thing 6", keep, NO_THING, () -> keep.pack(6, 0));
        Check.refused("P15 bag -2", keep, NO_THING, () -> keep.pack(2, -2));
        Check.refused("P15 bag 6", keep, NO_THING, () -> keep.pack(2, 6));
        Check.refused("P15 thing lies", keep, NOT_THERE, () -> keep.pack(4, 0));
        Check.refused("P15 thing lies, hands", keep, NOT_THERE, () -> keep.pack(4, -1));
        Check.refused("P15 bag lies", keep, NOT_THERE, () -> keep.pack(2, 1));
        Check.refused("P15 no bag, and lies", keep, NOT_THERE, () -> keep.pack(2, 4));
        Check.refused("P15 no bag", keep, CANNOT, () -> keep.pack(0, 2));
        Check.refused("P15 itself", keep, CANNOT, () -> keep.pack(0, 0));
        Check.refused("P15 what is in it", keep, CANNOT, () -> keep.pack(0, 5));
        keep.take(1);
        keep.pack(1, 5);
        Check.refused("P15 deep in it", keep, CANNOT, () -> keep.pack(0, 1));
        Check.refused("P15 one in the other", keep, CANNOT, () -> keep.pack(5, 1));
        Check.refused("P15 itself in a bag", keep, CANNOT, () -> keep.pack(2, 2));
        Check.is("P15 out of the depth", keep.pack(1, -1), 3);
    }

    private static void promise16Drink() {
        DelveKeep keep = with("@.", 3, 3, 6, 7, 4, 0);
        keep.setHero(0, 0, 12, 30);
        keep.setEffect(3, 'd', 3, 3);
        keep.addBeast(1, 0, 12, 2, 30);
        Check.refused("P16 no world", keep, NOT_NOW, () -> keep.drink(0));
        Check.refused("P16 no world, thing first", keep, NO_THING, () -> keep.drink(6));
        keep.begin(0);
        for (int thing = 0; thing < 4; thing++) {
            keep.take(thing);
        }
        keep.pack(1, 2);
        Check.refused("P16 thing -1", keep, NO_THING, () -> keep.drink(-1));
        Check.refused("P16 thing 6", keep, NO_THING, () -> keep.drink(6));
        Check.refused("P16 lies", keep, NOT_THERE, () -> keep.drink(4));
        Check.refused("P16 no potion, and lies", keep, NOT_THERE, () -> keep.drink(5));
        Check.refused("P16 in a bag", keep, NOT_THERE, () -> keep.drink(1));
        Check.refused("P16 a bag", keep, CANNOT, () -> keep.drink(2));
        Check.refused("P16 a blade", keep, CANNOT, () -> keep.drink(3));
        Check.is("P16 struck so far", keep.healthOf(0), 20);
        Check.is("P16 unknown", keep.nameOf(1), 100);
        Check.is("P16 ahead of what others do", keep.drink(0), 17);
        Check.is("P16 behind what others do", keep.healthOf(0), 15);
        Check.is("P16 on the hero alone", keep.healthOf(1), 30);
        Check.is("P16 gone", keep.whereIs(0), -2);
        Check.is("P16 known", keep.nameOf(0), 3);
        Check.is("P16 the kind is known", keep.nameOf(1), 3);
        Check.is("P16 another kind is not", keep.nameOf(4), 101);
        Check.refused("P16 drunk already", keep, NOT_THERE, () -> keep.drink(0));
        Check.is("P16 same", keep.isSame(), true);
    }

    private static void promise16Effects() {
        DelveKeep heal = with("@.", 3, 4, 4);
        heal.setEffect(3, 'd', 5, 0);
        heal.setEffect(4, 'h', 4, 0);
        heal.begin(0);
        takeAll(heal);
        Check.is("P16 harmed", heal.drink(0), 25);
        Check.is("P16 healed", heal.drink(1), 29);
        Check.is("P16 up to what it was first", heal.drink(2), 30);
        DelveKeep death = with("@.", 3, 0);
        death.setHero(0, 0, 12, 5);
        death.setEffect(3, 'd', 20, 0);
        death.addBeast(1, 0, 1, 1, 1);
        death.begin(0);
        takeAll(death);
        Check.is("P16 less than 0", death.drink(0), -15);
        Check.is("P16 dead", death.state(), 'd');
        Check.is("P16 no time passes then", death.tick(), 3);
        Check.is("P16 laid down", death.whereIs(1), 0);
        DelveKeep fire = with("@.", 5, 7, 7, 6, 7);
        fire.addThing(7, 1, 0, -1);
        fire.addThing(7, 0, 0, 3);
        fire.setEffect(5, 'f', 20, 3);
        fire.setKind(7, 1, true);
        fire.begin(0);
        fire.take(0);
        fire.take(1);
        Check.is("P16 fire does no harm", fire.drink(0), 30);
        Check.is("P16 what is carried is not burnt", fire.whereIs(1), -1);
        Check.is("P16 what lies is burnt", fire.whereIs(2), -2);
        Check.is("P16 what is not of wood stays", fire.whereIs(3), 0);
        Check.is("P16 all that lies is burnt", fire.whereIs(4), -2);
        Check.is("P16 the hero's cell alone", fire.whereIs(5), 100);
        Check.is("P16 what is in a bag is not burnt", fire.whereIs(6), -6);
    }

    private static void promise17Hurl() {
        DelveKeep keep = with("@.........", 0, 6, 7, 1);
        keep.addThing(2, 0, 0, 1);
        Check.refused("P17 no world", keep, NOT_NOW, () -> keep.hurl(0, 1));
        Check.refused("P17 no world, way first", keep, BAD, () -> keep.hurl(0, 4));
        Check.refused("P17 no world, thing first", keep, NO_THING, () -> keep.hurl(5, 4));
        keep.begin(0);
        keep.take(0);
        keep.take(1);
        Check.refused("P17 thing -1", keep, NO_THING, () -> keep.hurl(-1, 1));
        Check.refused("P17 thing 5", keep, NO_THING, () -> keep.hurl(5, 1));
        Check.refused("P17 way -1", keep, BAD, () -> keep.hurl(3, -1));
        Check.refused("P17 way 4", keep, BAD, () -> keep.hurl(0, 4));
        Check.refused("P17 lies", keep, NOT_THERE, () -> keep.hurl(3, 1));
        Check.refused("P17 in a bag", keep, NOT_THERE, () -> keep.hurl(4, 1));
        Check.is("P17 5 cells", keep.hurl(0, 1), 5);
        Check.is("P17 lies there", keep.whereIs(0), 500);
        Check.is("P17 a turn", keep.tick(), 4);
        Check.is("P17 off the edge", keep.hurl(1, 3), 0);
        Check.is("P17 lies here", keep.whereIs(1), 0);
        Check.is("P17 what is in it stays in it", keep.whereIs(4), -4);
        for (char sign : "#+012".toCharArray()) {
            DelveKeep shut = with("@.~/" + sign + ".", 0);
            shut.begin(0);
            shut.take(0);
            Check.is("P17 ahead of " + sign, shut.hurl(0, 1), 3);
            Check.is("P17 lies ahead of " + sign, shut.whereIs(0), 300);
        }
        DelveKeep ways = Keeps.open();
        ways.setHero(5, 5, 12, 30);
        for (int way = 0; way < 4; way++) {
            ways.addThing(0, 5, 5, -1);
        }
        ways.begin(0);
        takeAll(ways);
        int[] there = {500, 1005, 510, 5};
        for (int way = 0; way < 4; way++) {
            Check.is("P17 flies by way " + way, ways.hurl(way, way), 5);
            Check.is("P17 lies by way " + way, ways.whereIs(way), there[way]);
        }
        DelveKeep beast = with("@........", 0, 0);
        beast.addBeast(3, 0, 1, 0, 9);
        beast.begin(0);
        beast.take(0);
        Check.is("P17 onto a beast", beast.hurl(0, 1), 3);
        Check.is("P17 a key does no harm", beast.healthOf(1), 9);
        Check.is("P17 a key is no blow", Keeps.aim(beast, 1), -1);
    }

    private static void promise17Breaks() {
        for (int radius = 0; radius < 4; radius++) {
            DelveKeep keep = Keeps.open();
            keep.setHero(4, 4, 12, 30);
            keep.setEffect(4, 'd', 7, radius);
            keep.addThing(4, 4, 4, -1);
            keep.addThing(4, 0, 0, -1);
            int[][] places = {{7, 4}, {8, 5}, {9, 6}, {10, 7}, {7, 2}, {7, 0}, {5, 9}};
            int[] gaps = {0, 1, 2, 3, 2, 4, 5};
            for (int[] place : places) {
                keep.addBeast(place[0], place[1], 1, 0, 30);
            }
            keep.begin(0);
            keep.take(0);
            Check.is("P17 breaks " + radius, keep.hurl(0, 1), 3);
            for (int beast = 1; beast <= 7; beast++) {
                int due = gaps[beast - 1] <= radius ? 23 : 30;
                Check.is("P17 radius " + radius + " beast " + beast, keep.healthOf(beast), due);
            }
            Check.is("P17 radius " + radius + " the hero", keep.healthOf(0), radius == 3 ? 23 : 30);
            Check.is("P17 broken is gone", keep.whereIs(0), -2);
            Check.is("P17 broken is known", keep.nameOf(1), 4);
            Check.is("P17 it is heard", keep.aimOf(1), 704);
        }
        DelveKeep heal = with("@.", 3, 4);
        heal.setEffect(3, 'd', 9, 1);
        heal.setEffect(4, 'h', 20, 0);
        heal.addBeast(1, 0, 1, 0, 30);
        heal.begin(0);
        takeAll(heal);
        heal.hurl(0, 1);
        Check.is("P17 harms the beast", heal.healthOf(1), 21);
        Check.is("P17 harms the hero", heal.healthOf(0), 21);
        heal.hurl(1, 1);
        Check.is("P17 heals up to what it was first", heal.healthOf(1), 30);
        Check.is("P17 heals none beyond the radius", heal.healthOf(0), 21);
        DelveKeep blind = with("@.", 3, 4);
        blind.setEffect(3, 'b', 9, 0);
        blind.setEffect(4, 'b', 9, 1);
        blind.addBeast(1, 0, 12, 0, 30);
        blind.begin(0);
        takeAll(blind);
        blind.hurl(0, 1);
        Check.is("P17 a blind beast blinds nobody", blind.heroSees(1, 0), true);
        Check.is("P17 a blind beast sees", blind.aimOf(1), 0);
        blind.hurl(1, 1);
        Check.is("P17 the hero is blind in the radius", blind.heroSees(1, 0), false);
        DelveKeep dead = with("@#", 3);
        dead.setHero(0, 0, 12, 5);
        dead.setEffect(3, 'd', 5, 0);
        dead.begin(0);
        dead.take(0);
        Check.is("P17 breaks on the hero", dead.hurl(0, 1), 0);
        Check.is("P17 the hero is dead", dead.state(), 'd');
        DelveKeep corpse = with("@..", 3);
        corpse.setEffect(3, 'h', 20, 3);
        corpse.addBeast(1, 0, 1, 0, 3);
        corpse.begin(0);
        corpse.go(1);
        corpse.take(0);
        Check.is("P17 flies over the dead", corpse.hurl(0, 1), 2);
        Check.is("P17 the dead are not healed", corpse.healthOf(1), 0);
    }

    private static void promise17Strikes() {
        DelveKeep keep = with("@......", 7, 7, 7);
        keep.addBeast(4, 0, 1, 0, 30);
        keep.addBeast(5, 0, 1, 0, 30);
        keep.begin(0);
        takeAll(keep);
        Check.is("P17 a blade flies", keep.hurl(0, 1), 4);
        Check.is("P17 4 less", keep.healthOf(1), 26);
        Check.is("P17 not the one behind", keep.healthOf(2), 30);
        Check.is("P17 the blade lies there", keep.whereIs(0), 400);
        Check.is("P17 a blow is heard", keep.aimOf(1), 400);
        Check.is("P17 a blow is heard near by", keep.aimOf(2), 400);
        DelveKeep missed = with("@......", 7);
        missed.addBeast(6, 0, 1, 0, 30);
        missed.begin(0);
        missed.take(0);
        Check.is("P17 falls short", missed.hurl(0, 1), 5);
        Check.is("P17 no harm", missed.healthOf(1), 30);
        Check.is("P17 no blow, no noise", Keeps.aim(missed, 1), -1);
    }

    private static void fireBurnsByRisingNumbers() {
        DelveKeep keep = Keeps.dug("@.....", "......");
        keep.setEffect(3, 'f', 1, 1);
        keep.setKind(6, 1, true);
        keep.setKind(0, 1, true);
        keep.setKind(3, 1, true);
        keep.addThing(3, 0, 0, -1);
        keep.addThing(6, 4, 1, -1);
        keep.addThing(0, 0, 0, 1);
        keep.addThing(1, 0, 0, 1);
        keep.addThing(6, 5, 0, -1);
        keep.addThing(6, 0, 0, 4);
        keep.addThing(0, 0, 0, 5);
        keep.addThing(0, 3, 0, -1);
        keep.addThing(0, 0, 0, -1);
        keep.addBeast(5, 0, 1, 0, 5);
        keep.begin(0);
        keep.take(0);
        Check.is("fire: flown", keep.hurl(0, 1), 5);
        int[] due = {-2, -2, -2, 401, -2, -2, -2, 300, 0};
        for (int thing = 0; thing < due.length; thing++) {
            Check.is("fire: thing " + thing, keep.whereIs(thing), due[thing]);
        }
        Check.is("fire: no harm", keep.healthOf(1), 5);
        DelveKeep order = with("@.", 3, 0, 6, 6);
        order.addThing(0, 0, 0, 2);
        order.setKind(6, 1, true);
        order.setKind(0, 1, true);
        order.setEffect(3, 'f', 1, 0);
        order.begin(0);
        order.take(0);
        order.take(1);
        order.take(3);
        order.take(2);
        order.pack(1, 2);
        order.pack(2, 3);
        order.drop(3);
        order.drink(0);
        Check.is("fire: the outer bag is gone", order.whereIs(3), -2);
        Check.is("fire: the inner bag's turn was over", order.whereIs(2), 0);
        Check.is("fire: what is in it stays", order.whereIs(1), -5);
        Check.is("fire: and stays too", order.whereIs(4), -5);
        Check.is("fire: same", order.isSame(), true);
    }

    private static void promise18Shout() {
        DelveKeep keep = Keeps.dug("@....+..1...");
        keep.addBeast(4, 0, 1, 0, 9);
        keep.addBeast(6, 0, 1, 0, 9);
        keep.addBeast(9, 0, 1, 0, 9);
        Check.refused("P18 no world", keep, NOT_NOW, () -> keep.shout(1));
        Check.refused("P18 no world, loudness first", keep, BAD, () -> keep.shout(31));
        keep.begin(0);
        Check.refused("P18 loudness 0", keep, BAD, () -> keep.shout(0));
        Check.refused("P18 loudness 31", keep, BAD, () -> keep.shout(31));
        int[][] due = {{1, 0}, {3, 0}, {4, 1}, {7, 1}, {8, 2}, {9, 2}, {12, 2}, {13, 3}};
        for (int[] row : due) {
            Check.is("P18 loudness " + row[0], keep.shout(row[0]), row[1]);
        }
        Check.is("P18 a turn each", keep.tick(), 9);
        Check.is("P18 aim", keep.aimOf(3), 0);
        DelveKeep dead = Keeps.dug("@..");
        dead.addBeast(1, 0, 1, 0, 3);
        dead.addBeast(2, 0, 1, 0, 3);
        dead.begin(0);
        dead.go(1);
        Check.is("P18 the dead hear nothing", dead.shout(30), 1);
        Check.is("P18 loudest", Keeps.dug("@").begin(0), 1);
        DelveKeep apart = Keeps.dug("@#.");
        apart.addBeast(2, 0, 1, 0, 3);
        apart.begin(0);
        Check.is("P18 not through rock", apart.shout(30), 0);
    }

    private static void promise19Pray() {
        DelveKeep keep = with("@.", 3, 3);
        keep.setHero(0, 0, 12, 29);
        keep.setEffect(3, 'd', 20, 0);
        Check.refused("P19 no world", keep, NOT_NOW, keep::pray);
        keep.begin(0);
        takeAll(keep);
        keep.drink(0);
        Check.is("P19 heard", keep.pray(), -5);
        Check.is("P19 healed", keep.healthOf(0), 29);
        Check.is("P19 a turn", keep.tick(), 5);
        keep.drink(1);
        Check.is("P19 not heard", keep.pray(), -6);
        Check.is("P19 not healed", keep.healthOf(0), 9);
        DelveKeep third = with("@.", 3);
        third.setEffect(3, 'd', 20, 0);
        third.begin(0);
        takeAll(third);
        third.drink(0);
        Check.is("P19 a third is enough", third.pray(), -1);
        Check.is("P19 not healed at a third", third.healthOf(0), 10);
        Check.is("P19 in need, but not liked", prayAtNine(-1), -2);
        Check.is("P19 in need, and liked", prayAtNine(0), -5);
    }

    private static int prayAtNine(int temper) {
        DelveKeep keep = with("@.", 3);
        keep.setHero(0, 0, 12, 29);
        keep.setEffect(3, 'd', 20, 0);
        keep.begin(0);
        takeAll(keep);
        for (int i = 0; i > temper; i--) {
            keep.pray();
        }
        keep.drink(0);
        return keep.pray();
    }

    private static void promise19Temper() {
        Check.is("P19 a beast killed", temperBehind(3, 0), 0);
        Check.is("P19 a beast at a third is no coward", temperBehind(9, 6), 0);
        Check.is("P19 a fleeing beast killed", temperBehind(7, 5), -3);
        Check.is("P19 a fleeing beast killed, of 30", temperBehind(27, 19), -3);
        DelveKeep blade = with("@..", 7, 7);
        blade.addBeast(2, 0, 1, 0, 4);
        blade.begin(0);
        takeAll(blade);
        Check.is("P19 none killed", blade.pray(), -1);
        blade.hurl(0, 1);
        Check.is("P19 killed by a thrown blade", blade.pray(), -1);
        DelveKeep coward = with("@..", 7, 7, 3);
        coward.setEffect(3, 'd', 5, 0);
        coward.addBeast(2, 0, 1, 0, 7);
        coward.begin(0);
        takeAll(coward);
        coward.hurl(2, 1);
        Check.is("P19 coward's health", coward.healthOf(1), 2);
        coward.hurl(0, 1);
        Check.is("P19 a coward killed by a thrown blade", coward.pray(), -3);
        DelveKeep potion = with("@.", 3);
        potion.setEffect(3, 'd', 20, 0);
        potion.addBeast(1, 0, 1, 0, 4);
        potion.begin(0);
        takeAll(potion);
        potion.hurl(0, 1);
        Check.is("P19 killed by a potion", potion.pray(), -1);
        DelveKeep alive = Keeps.dug("@.");
        alive.addBeast(1, 0, 1, 0, 4);
        alive.begin(0);
        alive.go(1);
        Check.is("P19 struck, not killed", alive.pray(), -1);
    }

    /** What prayer answers behind a beast of some health that a potion weakened and a blow killed. */
    private static int temperBehind(int health, int harm) {
        DelveKeep keep = with("@.", 7, 3);
        keep.setEffect(3, 'd', Math.max(1, harm), 0);
        keep.addBeast(1, 0, 1, 0, health);
        keep.begin(0);
        takeAll(keep);
        if (harm > 0) {
            keep.hurl(1, 1);
        }
        while (keep.healthOf(1) > 0) {
            keep.go(1);
        }
        return keep.pray();
    }
}
