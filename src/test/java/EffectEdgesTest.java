/** The edges of what the document says of effects: their numbers, radii, what fire burns, what is known. */
public final class EffectEdgesTest {
    private EffectEdgesTest() {
    }

    public static void main(String[] args) {
        fiveEffectsAndNoOther();
        allEffectsOfAllPotions();
        healsUpToWhatItWasFirst();
        healsBeasts();
        theDeadFeelNothing();
        harmsToNothingAndBelow();
        harmsByRadius();
        harmsThroughRock();
        healsAndHastensByRadius();
        blindsTheHeroAlone();
        drinkingWorksOnTheHeroAlone();
        breaksWhereItIsThrown();
        fireReachesItsRadius();
        fireInTheHerosCell();
        fireLeavesWhatDoesNotLie();
        fireByRisingNumbers();
        fireOnPotions();
        whatIsUsedIsGoneAndKnown();
        whatIsNotUsedIsNotKnown();
        Check.end();
    }

    /** A hero, of a health, at the left of a row, with potions of two kinds in the hands. */
    private static DelveKeep potions(int health, int more, String row) {
        DelveKeep keep = Keeps.dug(row);
        keep.setHero(0, 0, 12, health);
        for (int thing = 0; thing < more; thing++) {
            keep.addThing(3, 0, 0, -1);
            keep.addThing(4, 0, 0, -1);
        }
        return keep;
    }

    private static void takeAll(DelveKeep keep) {
        for (int thing = 0; thing < Keeps.things(keep); thing++) {
            if (keep.whereIs(thing) == keep.placeOf(0)) {
                keep.take(thing);
            }
        }
    }

    private static void fiveEffectsAndNoOther() {
        DelveKeep keep = new DelveKeep();
        int wrong = 0;
        char before = 'h';
        for (int sign = 0; sign <= 0xffff; sign++) {
            boolean isTaken = "hdsbf".indexOf((char) sign) >= 0;
            try {
                wrong += keep.setEffect(4, (char) sign, 1, 0) == before && isTaken ? 0 : 1;
                before = (char) sign;
            } catch (IllegalArgumentException e) {
                wrong += isTaken ? 1 : 0;
            }
        }
        Check.is("signs that are wrongly taken or refused", wrong, 0);
        Check.is("the last that was taken", keep.setEffect(4, 'd', 1, 0), 's');
        Check.is("another kind is as it was", keep.setEffect(3, 'd', 1, 0), 'h');
    }

    private static void allEffectsOfAllPotions() {
        for (int kind = 3; kind <= 5; kind++) {
            for (char effect : "hdsbf".toCharArray()) {
                for (int n : new int[] {1, 20}) {
                    DelveKeep keep = Keeps.dug("@.");
                    keep.setHero(0, 0, 12, 99);
                    keep.setEffect(kind == 3 ? 4 : 3, 'd', 15, 0);
                    keep.setEffect(kind, effect, n, 0);
                    keep.addThing(kind == 3 ? 4 : 3, 0, 0, -1);
                    keep.addThing(kind, 0, 0, -1);
                    keep.setKind(0, 1, true);
                    keep.addThing(0, 0, 0, -1);
                    keep.begin(0);
                    keep.take(0);
                    keep.take(1);
                    keep.drink(0);
                    int due = effect == 'h' ? Math.min(99, 84 + n) : effect == 'd' ? 84 - n : 84;
                    String label = "effect " + effect + n + " of " + kind;
                    Check.is(label + ", health", keep.drink(1), due);
                    Check.is(label + ", ticks", keep.tick(), effect != 's' ? 5 : n == 1 ? 16 : 5);
                    Check.is(label + ", sight", keep.heroSees(1, 0), effect != 'b' || n == 1);
                    Check.is(label + ", fire", keep.whereIs(2), effect == 'f' ? -2 : 0);
                }
            }
        }
    }

    /** "'h' health increases by n, up to what it was first" */
    private static void healsUpToWhatItWasFirst() {
        for (int harm = 1; harm <= 20; harm++) {
            for (int n = 1; n <= 20; n++) {
                DelveKeep keep = potions(99, 1, "@.");
                keep.setEffect(3, 'd', harm, 0);
                keep.setEffect(4, 'h', n, 0);
                keep.begin(0);
                takeAll(keep);
                Check.is("harmed by " + harm, keep.drink(0), 99 - harm);
                Check.is("healed by " + n + " of " + harm, keep.drink(1), Math.min(99, 99 - harm + n));
            }
        }
        DelveKeep whole = potions(1, 1, "@.");
        whole.setEffect(3, 'h', 20, 0);
        whole.begin(0);
        takeAll(whole);
        Check.is("healed though whole", whole.drink(0), 1);
    }

    private static void healsBeasts() {
        for (int harm = 1; harm <= 20; harm++) {
            DelveKeep keep = potions(99, 1, "@.");
            keep.setEffect(3, 'd', harm, 0);
            keep.setEffect(4, 'h', 10, 0);
            keep.addBeast(1, 0, 1, 0, 30);
            keep.begin(0);
            takeAll(keep);
            keep.hurl(0, 1);
            keep.hurl(1, 1);
            Check.is("a beast healed of " + harm, keep.healthOf(1), Math.min(30, 40 - harm));
        }
    }

    /** "on all living creatures": what is dead, at 0 or below, is neither healed nor harmed. */
    private static void theDeadFeelNothing() {
        for (char effect : "hd".toCharArray()) {
            for (int health = 2; health <= 3; health++) {
                DelveKeep keep = potions(30, 1, "@.");
                keep.setEffect(3, effect, 20, 0);
                keep.addBeast(1, 0, 1, 0, health);
                keep.begin(0);
                takeAll(keep);
                keep.go(1);
                Check.is("dead", keep.healthOf(1), health - 3);
                Check.is("it breaks on the dead", keep.hurl(0, 1), 1);
                Check.is("the dead feel no " + effect, keep.healthOf(1), health - 3);
            }
        }
    }

    private static void harmsToNothingAndBelow() {
        for (int n = 1; n <= 20; n++) {
            DelveKeep hero = potions(10, 1, "@.");
            hero.setEffect(3, 'd', n, 0);
            hero.begin(0);
            takeAll(hero);
            int tick = hero.tick();
            Check.is("harm " + n, hero.drink(0), 10 - n);
            Check.is("harm " + n + ", state", hero.state(), n < 10 ? 'o' : 'd');
            Check.is("harm " + n + ", tick", hero.tick(), n < 10 ? tick + 1 : tick);
            Check.is("harm " + n + ", the hands", hero.whereIs(1), n < 10 ? -1 : 0);
            Check.is("harm " + n + ", health", hero.healthOf(0), 10 - n);
            DelveKeep beast = potions(30, 1, "@.");
            beast.setEffect(3, 'd', n, 0);
            beast.addBeast(1, 0, 1, 0, 10);
            beast.begin(0);
            takeAll(beast);
            beast.hurl(0, 1);
            Check.is("harm " + n + " of a beast", beast.healthOf(1), 10 - n);
            Check.is("harm " + n + " of a beast, share", beast.livingShare(), n < 10 ? 1f : 0f);
            Check.is("harm " + n + " of a beast, way", beast.go(1), n < 10 ? 'a' : 'm');
        }
    }

    /** "cells that have a distance, the greater one of both, that is not greater than the radius" */
    private static void harmsByRadius() {
        for (int radius = 0; radius <= 3; radius++) {
            for (int dx = -4; dx <= 4; dx++) {
                for (int dy = -4; dy <= 4; dy++) {
                    DelveKeep keep = thrownTo5And5('d', 3, radius, 5 + dx, 5 + dy);
                    if (keep != null) {
                        boolean isIn = Math.max(Math.abs(dx), Math.abs(dy)) <= radius;
                        Check.is("radius " + radius + " at " + dx + " " + dy, keep.healthOf(1), isIn ? 27 : 30);
                        Check.is("radius " + radius + ", the hero", keep.healthOf(0), 30);
                    }
                }
            }
        }
        for (int off = 0; off <= 5; off++) {
            for (int radius = 0; radius <= 3; radius++) {
                DelveKeep keep = potions(30, 1, "@......".substring(0, off + 1));
                keep.setEffect(3, 'd', 3, radius);
                keep.begin(0);
                takeAll(keep);
                Check.is("it flies", keep.hurl(0, 1), off);
                Check.is("the hero " + off + " off, radius " + radius, keep.healthOf(0), off <= radius ? 27 : 30);
            }
        }
    }

    /** A potion that has broken at 5 and 5, with a beast off it; null where the beast would be hit in its flight. */
    private static DelveKeep thrownTo5And5(char effect, int n, int radius, int x, int y) {
        if (y == 5 && x < 5) {
            return null;
        }
        DelveKeep keep = Keeps.open();
        keep.setHero(0, 5, 12, 30);
        keep.setEffect(3, effect, n, radius);
        keep.addThing(3, 0, 5, -1);
        keep.addBeast(x, y, 1, 0, 30);
        keep.begin(0);
        keep.take(0);
        Check.is("it flies 5", keep.hurl(0, 1), 5);
        return keep;
    }

    private static void harmsThroughRock() {
        DelveKeep keep = Keeps.dug("@.#.", "###+", "##0.");
        keep.setEffect(3, 'd', 3, 2);
        keep.addThing(3, 0, 0, -1);
        keep.addBeast(3, 0, 1, 0, 30);
        keep.addBeast(3, 2, 1, 0, 30);
        keep.begin(0);
        keep.take(0);
        Check.is("ahead of rock", keep.hurl(0, 1), 1);
        Check.is("behind rock", keep.healthOf(1), 27);
        Check.is("behind rock and doors", keep.healthOf(2), 27);
    }

    private static void healsAndHastensByRadius() {
        for (int radius = 0; radius <= 3; radius++) {
            DelveKeep keep = Keeps.dug("@.....", "......", "......", "......", "......");
            keep.setHero(0, 0, 12, 99);
            keep.setEffect(3, 'd', 9, 3);
            keep.setEffect(4, 'h', 4, radius);
            keep.addThing(3, 0, 0, -1);
            keep.addThing(4, 0, 0, -1);
            for (int beast = 1; beast <= 4; beast++) {
                keep.addBeast(beast - 1, beast, 1, 0, 30);
            }
            keep.begin(0);
            takeAll(keep);
            keep.hurl(0, 0);
            keep.hurl(1, 3);
            Check.is("the hero is healed, radius " + radius, keep.healthOf(0), 94);
            for (int beast = 1; beast <= 4; beast++) {
                int due = beast > 3 ? 30 : beast <= radius ? 25 : 21;
                Check.is("beast " + beast + ", radius " + radius, keep.healthOf(beast), due);
            }
        }
        for (int radius = 0; radius <= 3; radius++) {
            DelveKeep keep = potions(30, 1, "@....");
            keep.setEffect(3, 's', 1, radius);
            keep.begin(0);
            takeAll(keep);
            keep.hurl(0, 1);
            Check.is("4 off, radius " + radius, keep.tick(), 4);
            keep.leave();
            keep.begin(0);
            takeAll(keep);
            for (int step = 0; step < 4 - radius; step++) {
                keep.go(1);
            }
            int tick = keep.tick();
            keep.hurl(0, 1);
            Check.is("as far off as the radius, " + radius, keep.tick(), tick + 12);
        }
    }

    /** "Blindness of beasts does nothing." */
    private static void blindsTheHeroAlone() {
        for (int off = 0; off <= 4; off++) {
            for (int radius = 0; radius <= 3; radius++) {
                DelveKeep keep = Keeps.dug("@....");
                keep.setEffect(3, 'b', 20, radius);
                keep.addThing(3, 0, 0, -1);
                keep.addBeast(Math.max(1, off), 0, 12, 0, 30);
                keep.setHero(0, 0, 24, 30);
                keep.begin(0);
                keep.take(0);
                int place = keep.placeOf(1);
                int distance = off == 0 ? 0 : place / 100;
                Check.is("thrown", keep.hurl(0, off == 0 ? 3 : 1), distance);
                Check.is("the hero, " + distance + " off, " + radius, keep.heroSees(1, 0), distance > radius);
                Keeps.rest(keep, 2);
                Check.is("a blind beast has its aim", Keeps.aim(keep, 1), 0);
            }
        }
    }

    /** "When it is drunk, it works on the hero alone" */
    private static void drinkingWorksOnTheHeroAlone() {
        for (char effect : "hds".toCharArray()) {
            DelveKeep keep = Keeps.dug("@.");
            keep.setHero(0, 0, 12, 30);
            keep.setEffect(3, 'd', 5, 1);
            keep.setEffect(4, effect, 6, 3);
            keep.addThing(3, 0, 0, -1);
            keep.addThing(4, 0, 0, -1);
            keep.addBeast(1, 0, 1, 0, 30);
            keep.begin(0);
            takeAll(keep);
            keep.hurl(0, 3);
            Check.is("both are harmed", keep.healthOf(0) + keep.healthOf(1), 50);
            int due = effect == 'h' ? 30 : effect == 'd' ? 19 : 25;
            Check.is("drunk " + effect, keep.drink(1), due);
            Check.is("drunk " + effect + ", the beast", keep.healthOf(1), 25);
            Check.is("drunk " + effect + ", tick", keep.tick(), effect == 's' ? 6 : 5);
            Check.is("drunk " + effect + " is not heard anew", keep.aimOf(1), 0);
        }
    }

    private static void breaksWhereItIsThrown() {
        for (char sign : "#+0".toCharArray()) {
            DelveKeep keep = potions(30, 1, "@" + sign + ".");
            keep.setEffect(3, 'd', 3, 0);
            keep.addBeast(2, 0, 1, 0, 30);
            keep.begin(0);
            takeAll(keep);
            Check.is("ahead of " + sign, keep.hurl(0, 1), 0);
            Check.is("on the hero, ahead of " + sign, keep.healthOf(0), 27);
            Check.is("not behind " + sign, keep.healthOf(1), 30);
        }
        DelveKeep both = potions(20, 1, "@..");
        both.setEffect(3, 'd', 20, 1);
        both.addBeast(1, 0, 1, 0, 20);
        both.addBeast(2, 0, 1, 0, 20);
        both.begin(0);
        takeAll(both);
        both.hurl(0, 1);
        Check.is("the hero dies of it", both.state(), 'd');
        Check.is("so do others, by rising numbers", both.healthOf(1) + both.healthOf(2), 0);
        Check.is("none lives", both.livingShare(), 0f);
        Check.is("what was in the hands lies", both.whereIs(1), 0);
    }

    // ---- fire

    /** "Fire burns all wooden things that lie on such cells": 24 of them, around the cell and one further. */
    private static void fireReachesItsRadius() {
        for (int radius = 0; radius <= 3; radius++) {
            DelveKeep keep = new DelveKeep();
            for (int x = 0; x <= 5; x++) {
                keep.dig(x, 5, '.');
            }
            keep.setHero(0, 5, 12, 30);
            keep.setEffect(5, 'f', 20, radius);
            keep.setKind(7, 1, true);
            int[][] ways = {{0, -1}, {1, -1}, {1, 0}, {1, 1}, {0, 1}, {-1, 1}, {-1, 0}, {-1, -1}};
            keep.addThing(5, 0, 5, -1);
            for (int[] way : ways) {
                keep.addThing(7, 5 + radius * way[0], 5 + radius * way[1], -1);
                keep.addThing(7, 5 + (radius + 1) * way[0], 5 + (radius + 1) * way[1], -1);
            }
            keep.addThing(0, 5, 5, -1);
            keep.addThing(7, 5, 5, -1);
            keep.begin(0);
            keep.take(0);
            Check.is("fire flies", keep.hurl(0, 1), 5);
            for (int i = 0; i < 8; i++) {
                int further = 100 * (5 + (radius + 1) * ways[i][0]) + 5 + (radius + 1) * ways[i][1];
                Check.is("fire " + radius + " off by it " + i, keep.whereIs(1 + 2 * i), -2);
                Check.is("fire " + radius + " off by one more " + i, keep.whereIs(2 + 2 * i), further);
            }
            Check.is("what is not of wood", keep.whereIs(17), 505);
            Check.is("what is, in the middle", keep.whereIs(18), -2);
            Check.is("no harm", keep.healthOf(0), 30);
        }
    }

    /** "... and fire in the hero's cell": whatever the radius. */
    private static void fireInTheHerosCell() {
        for (int radius = 0; radius <= 3; radius++) {
            DelveKeep keep = Keeps.dug("@.");
            keep.setEffect(3, 'f', 1, radius);
            keep.setKind(7, 1, true);
            keep.addThing(3, 0, 0, -1);
            for (int place : new int[] {0, 100, 1, 101}) {
                keep.addThing(7, place / 100, place % 100, -1);
            }
            keep.begin(0);
            keep.take(0);
            keep.drink(0);
            int[] due = {-2, -2, 100, 1, 101};
            for (int thing = 0; thing < due.length; thing++) {
                Check.is("drunk fire " + radius + ", thing " + thing, keep.whereIs(thing), due[thing]);
            }
        }
    }

    private static void fireLeavesWhatDoesNotLie() {
        DelveKeep keep = Keeps.dug("@.");
        keep.setEffect(3, 'f', 1, 3);
        for (int kind = 0; kind < 8; kind++) {
            keep.setKind(kind, 1, kind != 6);
        }
        keep.addThing(3, 0, 0, -1);
        keep.addThing(6, 0, 0, -1);
        keep.addThing(7, 0, 0, 1);
        keep.addThing(6, 0, 0, -1);
        keep.addThing(7, 0, 0, 3);
        keep.addThing(7, 0, 0, -1);
        keep.addThing(3, 0, 0, -1);
        keep.begin(0);
        for (int thing : new int[] {0, 3, 5, 6}) {
            keep.take(thing);
        }
        keep.hurl(0, 3);
        int[] due = {-2, 0, -4, -1, -6, -1, -1};
        for (int thing = 0; thing < due.length; thing++) {
            Check.is("fire here, thing " + thing, keep.whereIs(thing), due[thing]);
        }
        keep.drop(5);
        keep.drink(6);
        Check.is("what was dropped lies, and is burnt", keep.whereIs(5), -2);
        Check.is("what is in a bag that lies is not", keep.whereIs(2), -4);
    }

    /** "... what was in them lies there, and is burnt, too, if its turn is still to come" */
    private static void fireByRisingNumbers() {
        DelveKeep rising = Keeps.dug("@.");
        rising.setEffect(3, 'f', 1, 0);
        rising.setKind(6, 1, true);
        rising.addThing(6, 0, 0, -1);
        for (int thing = 1; thing < 22; thing++) {
            rising.addThing(6, 0, 0, thing - 1);
        }
        rising.addThing(0, 0, 0, 21);
        rising.addThing(3, 0, 0, -1);
        rising.begin(0);
        rising.take(23);
        rising.drink(23);
        for (int thing = 0; thing < 22; thing++) {
            Check.is("all bags burn one by one, " + thing, rising.whereIs(thing), -2);
        }
        Check.is("what is not of wood lies then", rising.whereIs(22), 0);
        DelveKeep falling = Keeps.dug("@.");
        falling.setEffect(3, 'f', 1, 0);
        falling.setKind(6, 1, true);
        for (int thing = 0; thing < 20; thing++) {
            falling.addThing(6, 0, 0, -1);
        }
        for (int thing = 20; thing < 24; thing++) {
            falling.addThing(3, 0, 0, -1);
        }
        falling.begin(0);
        takeAll(falling);
        for (int thing = 0; thing < 19; thing++) {
            falling.pack(thing, thing + 1);
        }
        falling.drop(19);
        for (int fire = 0; fire < 4; fire++) {
            falling.drink(20 + fire);
            Check.is("the outermost is gone, " + fire, falling.whereIs(19 - fire), -2);
            Check.is("the next lies, " + fire, falling.whereIs(18 - fire), 0);
            Check.is("and holds the next, " + fire, falling.whereIs(17 - fire), -3 - (18 - fire));
        }
        Check.is("same", falling.isSame(), true);
        DelveKeep mixed = Keeps.dug("@.");
        mixed.setEffect(3, 'f', 1, 0);
        mixed.setKind(6, 1, true);
        mixed.setKind(7, 1, true);
        for (int kind : new int[] {7, 6, 7, 3, 0}) {
            mixed.addThing(kind, 0, 0, -1);
        }
        mixed.begin(0);
        takeAll(mixed);
        for (int thing : new int[] {0, 2, 4}) {
            mixed.pack(thing, 1);
        }
        mixed.drop(1);
        mixed.drink(3);
        int[] due = {0, -2, -2, -2, 0};
        for (int thing = 0; thing < due.length; thing++) {
            Check.is("ahead of and behind the bag, " + thing, mixed.whereIs(thing), due[thing]);
        }
    }

    private static void fireOnPotions() {
        DelveKeep keep = Keeps.dug("@.");
        keep.setEffect(3, 'f', 1, 1);
        keep.setEffect(4, 'd', 20, 3);
        keep.setEffect(5, 'f', 1, 3);
        for (int kind = 3; kind <= 5; kind++) {
            keep.setKind(kind, 1, true);
        }
        for (int kind : new int[] {3, 4, 5, 3, 4, 5}) {
            keep.addThing(kind, 0, 0, -1);
        }
        keep.setKind(7, 1, true);
        keep.addThing(7, 1, 0, -1);
        keep.begin(0);
        keep.take(0);
        keep.take(4);
        keep.take(5);
        Check.is("burnt potions do not work", keep.drink(0), 30);
        int[] due = {-2, -2, -2, -2, -1, -1, 100};
        for (int thing = 0; thing < due.length; thing++) {
            Check.is("fire on potions, thing " + thing, keep.whereIs(thing), due[thing]);
        }
        Check.is("the kind that was used is known", keep.nameOf(3), 3);
        Check.is("a kind that was burnt is not", keep.nameOf(4), 101);
        Check.is("nor another", keep.nameOf(5), 102);
    }

    // ---- what is known

    /** "A thing that is used so is gone, and the kind is known from then on in this world." */
    private static void whatIsUsedIsGoneAndKnown() {
        for (int kind = 3; kind <= 5; kind++) {
            for (char effect : "hdsbf".toCharArray()) {
                for (int way = 0; way < 2; way++) {
                    DelveKeep keep = Keeps.dug("@.");
                    keep.setEffect(kind, effect, 1, 0);
                    for (int thing = 0; thing < 6; thing++) {
                        keep.addThing(3 + thing % 3, 0, 0, -1);
                    }
                    keep.begin(0);
                    takeAll(keep);
                    Check.is("used", way == 0 ? keep.drink(kind - 3) - 30 : keep.hurl(kind - 3, 3),
                            way == 0 && effect == 'd' ? -1 : 0);
                    for (int thing = 0; thing < 6; thing++) {
                        boolean isKnown = 3 + thing % 3 == kind;
                        String label = "used " + kind + effect + way + ", thing " + thing;
                        Check.is(label, keep.nameOf(thing), isKnown ? kind : 100 + thing % 3);
                        Check.is(label + ", where", keep.whereIs(thing), thing == kind - 3 ? -2 : -1);
                    }
                    keep.leave();
                    keep.begin(0);
                    Check.is("not known in the next world", keep.nameOf(kind), 100 + kind % 3);
                }
            }
        }
    }

    private static void whatIsNotUsedIsNotKnown() {
        DelveKeep keep = Keeps.dug("@.");
        for (int kind : new int[] {3, 6, 7}) {
            keep.addThing(kind, 0, 0, -1);
        }
        keep.begin(0);
        takeAll(keep);
        keep.pack(0, 1);
        Check.is("in a bag", keep.nameOf(0), 100);
        keep.hurl(1, 1);
        Check.is("thrown in a bag", keep.nameOf(0), 100);
        keep.go(1);
        keep.take(1);
        keep.pack(0, -1);
        keep.drop(0);
        Check.is("dropped", keep.nameOf(0), 100);
        Check.is("a bag", keep.nameOf(1), 6);
        Check.is("a blade", keep.nameOf(2), 7);
    }
}
