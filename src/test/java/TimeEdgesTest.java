/** The edges of what the document says of time: energies, turns, what lasts, and 512 calls. */
public final class TimeEdgesTest {
    private TimeEdgesTest() {
    }

    public static void main(String[] args) {
        turnsTake12();
        turnsAreThoseOfEachSpeed();
        lowestNumberFirst();
        greatestEnergyFirst();
        twoTurnsInOneTick();
        theDeadGetNothing();
        theWorldStopsWithTheHero();
        whatIsNoTurnTakesNoTime();
        hasteLastsTwelveTicks();
        hasteTakesThePlaceOfHaste();
        hasteOfBeasts();
        blindnessLastsItsNumber();
        blindnessTakesThePlaceOfBlindness();
        worldsBeginAnew();
        anObjectTakes512Calls();
        eachActIsInTheLog();
        worldAfterWorldIn512Calls();
        Check.end();
    }

    /** The tick in which a creature of a speed has gathered 12 times some turns. */
    private static int tickOf(int turn, int speed) {
        return (12 * turn + speed - 1) / speed;
    }

    /** "... as long as some living creature has an energy of 12 or more ... has its turn, which takes 12" */
    private static void turnsTake12() {
        for (int speed = 1; speed <= 24; speed++) {
            DelveKeep keep = Keeps.dug("@");
            keep.setHero(0, 0, speed, 30);
            Check.is("speed " + speed + ", begun", keep.begin(0), tickOf(1, speed));
            for (int turn = 2; turn <= 40; turn++) {
                Check.is("speed " + speed + ", turn " + turn, keep.rest(), tickOf(turn, speed));
                Check.is("speed " + speed + ", tick " + turn, keep.tick(), tickOf(turn, speed));
            }
            Check.is("speed " + speed + ", left", keep.leave(), tickOf(40, speed));
            Check.is("speed " + speed + ", tick when left", keep.tick(), tickOf(40, speed));
        }
    }

    /** A hero of speed 1 has its turn with 12, and of equal energies the lower number goes first. */
    private static void turnsAreThoseOfEachSpeed() {
        for (int speed = 1; speed <= 24; speed++) {
            DelveKeep keep = Keeps.dug("@.");
            keep.setHero(0, 0, 1, 99);
            keep.addBeast(1, 0, speed, 1, 1);
            Check.is("begun beside a beast", keep.begin(0), 12);
            Check.is("blows of speed " + speed, keep.healthOf(0), 99 - (speed - 1));
            Check.is("rested beside a beast", keep.rest(), 24);
            Check.is("more blows of speed " + speed, keep.healthOf(0), 99 - (2 * speed - 1));
        }
    }

    /** "... of several the one with the lowest number": who is behind can go only where others have gone. */
    private static void lowestNumberFirst() {
        DelveKeep rising = Keeps.dug("@...........");
        DelveKeep falling = Keeps.dug("@...........");
        for (int beast = 1; beast <= 7; beast++) {
            rising.addBeast(3 + beast, 0, 12, 0, 1);
            falling.addBeast(11 - beast, 0, 12, 0, 1);
        }
        rising.begin(0);
        falling.begin(0);
        for (int beast = 1; beast <= 7; beast++) {
            Check.is("the hero is ahead of beast " + beast, rising.placeOf(beast), 300 + 100 * beast);
        }
        rising.rest();
        falling.rest();
        for (int beast = 1; beast <= 7; beast++) {
            Check.is("rising, beast " + beast, rising.placeOf(beast), 200 + 100 * beast);
            Check.is("falling, beast " + beast, falling.placeOf(beast), beast == 7 ? 300 : 1100 - 100 * beast);
        }
        falling.rest();
        for (int beast = 1; beast <= 7; beast++) {
            int due = beast == 7 ? 200 : beast == 6 ? 400 : 1100 - 100 * beast;
            Check.is("falling again, beast " + beast, falling.placeOf(beast), due);
        }
    }

    /** Two want the one cell between them and the hero; that with more energy gets it, though its number is higher. */
    private static void greatestEnergyFirst() {
        for (int more = 12; more <= 24; more++) {
            DelveKeep keep = Keeps.dug("@..", " . ");
            keep.addBeast(2, 0, 12, 0, 1);
            keep.addBeast(1, 1, more, 0, 1);
            keep.begin(0);
            keep.rest();
            Check.is("12 against " + more, keep.placeOf(more == 12 ? 1 : 2), 100);
        }
        DelveKeep hero = Keeps.dug("@..");
        hero.addBeast(2, 0, 13, 0, 1);
        hero.begin(0);
        Check.is("13 is ahead of the hero's 12", hero.placeOf(1), 100);
        DelveKeep equal = Keeps.dug("@..");
        equal.addBeast(2, 0, 12, 0, 1);
        equal.begin(0);
        Check.is("12 is not", equal.placeOf(1), 200);
        DelveKeep quick = Keeps.dug("@..");
        quick.setHero(0, 0, 13, 30);
        quick.addBeast(2, 0, 13, 0, 1);
        quick.begin(0);
        Check.is("nor are 13 ahead of 13", quick.placeOf(1), 200);
    }

    private static void twoTurnsInOneTick() {
        DelveKeep keep = Keeps.dug("@.......");
        keep.addBeast(7, 0, 24, 0, 1);
        keep.begin(0);
        Check.is("24: one turn ahead of the hero", keep.placeOf(1), 600);
        keep.rest();
        Check.is("24: one behind, one ahead", keep.placeOf(1), 400);
        DelveKeep hero = Keeps.dug("@.......");
        hero.setHero(0, 0, 24, 30);
        hero.addBeast(7, 0, 12, 0, 1);
        Check.is("the hero of 24 begins", hero.begin(0), 1);
        hero.go(1);
        Check.is("24 less 12 is as much as 12", hero.tick(), 1);
        Check.is("the beast still waits", hero.placeOf(1), 700);
        hero.go(1);
        Check.is("the next tick", hero.tick(), 2);
        Check.is("the beast has gone", hero.placeOf(1), 600);
        DelveKeep between = Keeps.dug("@.......");
        between.setHero(0, 0, 24, 30);
        between.addBeast(7, 0, 13, 0, 1);
        between.begin(0);
        between.rest();
        Check.is("13 is between 24 and 12", between.placeOf(1), 600);
        Check.is("in one tick", between.tick(), 1);
    }

    private static void theDeadGetNothing() {
        DelveKeep keep = Keeps.dug("@.");
        keep.addBeast(1, 0, 24, 1, 3);
        keep.begin(0);
        int health = keep.healthOf(0);
        keep.go(1);
        Check.is("dead at 0", keep.healthOf(1), 0);
        Keeps.rest(keep, 20);
        Check.is("the dead have no turn, not even the one that was left", keep.healthOf(0), health);
        DelveKeep one = Keeps.dug("@.");
        one.addBeast(1, 0, 24, 1, 4);
        one.begin(0);
        one.go(1);
        Check.is("alive at 1", one.healthOf(1), 1);
        Check.is("a beast at 1 of 4 is afraid, not dead", one.go(1), 'a');
    }

    /** "... until it is the hero's turn again, or the hero is dead" */
    private static void theWorldStopsWithTheHero() {
        DelveKeep keep = Keeps.dug("..", "@.", ".");
        keep.setHero(0, 1, 12, 5);
        for (int[] at : new int[][] {{0, 0}, {1, 1}, {0, 2}}) {
            keep.addBeast(at[0], at[1], 12, 3, 9);
        }
        keep.begin(0);
        Check.is("the tick of the death", keep.rest(), 1);
        Check.is("two blows, not three", keep.healthOf(0), -1);
        Check.is("dead", keep.state(), 'd');
        Check.is("tick", keep.tick(), 1);
        DelveKeep exact = Keeps.dug("@.");
        exact.setHero(0, 0, 12, 9);
        exact.addBeast(1, 0, 12, 9, 9);
        exact.begin(0);
        exact.rest();
        Check.is("dead at 0", exact.state(), 'd');
        DelveKeep alive = Keeps.dug("@.");
        alive.setHero(0, 0, 12, 10);
        alive.addBeast(1, 0, 12, 9, 9);
        alive.begin(0);
        Check.is("the next tick", alive.rest(), 2);
        Check.is("alive at 1", alive.state(), 'o');
        DelveKeep slow = Keeps.dug("@.");
        slow.setHero(0, 0, 1, 6);
        slow.addBeast(1, 0, 12, 2, 9);
        Check.is("dead in the third tick ahead of the first turn", slow.begin(0), 3);
        Check.is("dead ahead of the first turn", slow.state(), 'd');
        Check.is("the log of no acts", slow.isSame(), true);
    }

    private static void whatIsNoTurnTakesNoTime() {
        DelveKeep keep = Keeps.dug("@.0");
        keep.setHero(0, 0, 12, 30);
        keep.addBeast(1, 0, 24, 1, 30);
        keep.begin(0);
        String before = Keeps.all(keep);
        for (int way : new int[] {0, 2, 3}) {
            Check.is("way " + way, keep.go(way), 'b');
            Check.is("way " + way + " changes nothing", Keeps.all(keep), before);
        }
        Check.is("nor the log", keep.isSame(), true);
    }

    // ---- what lasts

    /** "speed is n for 12 ticks": the k-th turn behind drinking comes as soon as 12 k is gathered. */
    private static void hasteLastsTwelveTicks() {
        for (int n = 1; n <= 20; n++) {
            for (int speed : new int[] {1, 6, 12}) {
                DelveKeep keep = Keeps.dug("@");
                keep.setHero(0, 0, speed, 30);
                keep.setEffect(5, 's', n, 0);
                keep.addThing(5, 0, 0, -1);
                keep.begin(0);
                int drunk = keep.take(0) == 1 ? keep.tick() : -1;
                keep.drink(0);
                for (int turn = 1; turn <= 30; turn++) {
                    int ticks = 0;
                    int energy = 0;
                    while (energy < 12 * turn) {
                        energy += ticks < 12 ? n : speed;
                        ticks++;
                    }
                    Check.is("speed " + n + " for " + speed + ", turn " + turn, keep.tick(), drunk + ticks);
                    keep.rest();
                }
            }
        }
    }

    private static void hasteTakesThePlaceOfHaste() {
        DelveKeep keep = Keeps.dug("@");
        keep.setEffect(3, 's', 1, 0);
        keep.setEffect(4, 's', 20, 0);
        keep.addThing(3, 0, 0, -1);
        keep.addThing(4, 0, 0, -1);
        keep.begin(0);
        keep.take(0);
        keep.take(1);
        Check.is("tick", keep.tick(), 3);
        keep.drink(0);
        Check.is("12 ticks for 12", keep.tick(), 15);
        keep.drink(1);
        Check.is("then 1 for 20", keep.tick(), 16);
        int[] due = {17, 17, 18, 18, 19, 20, 20, 21, 21, 22, 23, 23, 24, 24, 25, 26, 26, 27, 27, 28};
        for (int turn = 0; turn < due.length; turn++) {
            Check.is("20 for 12 ticks, turn " + turn, keep.rest(), due[turn]);
        }
        DelveKeep other = Keeps.dug("@");
        other.setEffect(3, 's', 20, 0);
        other.setEffect(4, 's', 1, 0);
        other.addThing(3, 0, 0, -1);
        other.addThing(4, 0, 0, -1);
        other.begin(0);
        other.take(0);
        other.take(1);
        other.drink(0);
        Check.is("quick", other.tick(), 4);
        other.drink(1);
        Check.is("8 that were left, and 4 for 1", other.tick(), 8);
        Check.is("8 for 1, and a tick of 12", other.rest(), 17);
    }

    /** A beast that is slowed gathers 1 for 12 ticks; its blows show it. */
    private static void hasteOfBeasts() {
        for (int n = 1; n <= 20; n++) {
            DelveKeep keep = Keeps.dug("@..");
            keep.setHero(0, 0, 12, 99);
            keep.setEffect(3, 's', n, 0);
            keep.addThing(3, 0, 0, -1);
            keep.addBeast(1, 0, 1, 1, 30);
            keep.begin(0);
            keep.take(0);
            keep.hurl(0, 1);
            int energy = 2 + n;
            int health = 99;
            for (int tick = 1; tick <= 30; tick++) {
                // with more than the hero's 12 a beast strikes ahead of the hero, with just 12 behind it
                for (; energy > 12; energy -= 12) {
                    health--;
                }
                Check.is("beast of speed " + n + " at tick " + tick, keep.healthOf(0), health);
                health -= energy == 12 ? 1 : 0;
                energy = energy % 12 + (tick < 12 ? n : 1);
                keep.rest();
            }
        }
    }

    /** "blindness for n ticks", "one less left in each tick, behind the energies and ahead of turns" */
    private static void blindnessLastsItsNumber() {
        for (int n = 1; n <= 20; n++) {
            DelveKeep keep = Keeps.dug("@.");
            keep.setEffect(4, 'b', n, 0);
            keep.addThing(4, 0, 0, -1);
            keep.begin(0);
            keep.take(0);
            Check.is("sees ahead of it", keep.heroSees(1, 0), true);
            keep.drink(0);
            for (int ticks = 1; ticks <= n + 2; ticks++) {
                Check.is("blind for " + n + ", " + ticks + " ticks on", keep.heroSees(1, 0), ticks >= n);
                Check.is("its own cell", keep.heroSees(0, 0), true);
                keep.rest();
            }
        }
        DelveKeep slow = Keeps.dug("@.");
        slow.setHero(0, 0, 1, 30);
        slow.setEffect(4, 'b', 13, 0);
        slow.addThing(4, 0, 0, -1);
        slow.begin(0);
        slow.take(0);
        slow.drink(0);
        Check.is("ticks, not turns: 12 of 13", slow.heroSees(1, 0), false);
        slow.rest();
        Check.is("ticks, not turns: 24 of 13", slow.heroSees(1, 0), true);
    }

    /** "a further one takes the place of what lasts" */
    private static void blindnessTakesThePlaceOfBlindness() {
        int[][] cases = {{20, 1, 1}, {20, 2, 2}, {2, 20, 20}, {3, 3, 3}, {1, 20, 20}};
        for (int[] row : cases) {
            DelveKeep keep = Keeps.dug("@.");
            keep.setEffect(3, 'b', row[0], 0);
            keep.setEffect(4, 'b', row[1], 0);
            keep.addThing(3, 0, 0, -1);
            keep.addThing(4, 0, 0, -1);
            keep.begin(0);
            keep.take(0);
            keep.take(1);
            keep.drink(0);
            keep.drink(1);
            for (int ticks = 1; ticks <= row[2] + 1; ticks++) {
                String label = "blind for " + row[0] + ", then for " + row[1] + ", " + ticks + " ticks on";
                Check.is(label, keep.heroSees(1, 0), ticks >= row[2]);
                keep.rest();
            }
        }
    }

    private static void worldsBeginAnew() {
        DelveKeep keep = Keeps.dug("@......");
        keep.setHero(0, 0, 7, 30);
        keep.setEffect(3, 's', 20, 0);
        keep.setEffect(4, 'b', 20, 0);
        keep.addThing(3, 0, 0, -1);
        keep.addThing(4, 0, 0, -1);
        keep.addBeast(6, 0, 5, 0, 1);
        Check.is("the first tick", keep.begin(0), 2);
        int[] due = {4, 6, 7, 9, 11, 12};
        for (int world = 0; world < 4; world++) {
            for (int turn = 0; turn < due.length; turn++) {
                Check.is("world " + world + ", turn " + turn, keep.rest(), due[turn]);
                Check.is("world " + world + ", sees", keep.heroSees(1, 0), true);
            }
            keep.take(0);
            keep.take(1);
            keep.drink(0);
            keep.drink(1);
            Keeps.rest(keep, world);
            keep.leave();
            Check.is("world " + world + " is over", keep.begin(world), 2);
        }
    }

    // ---- 512 calls

    /** "An object is used for at most 512 calls after it has been made" */
    private static void anObjectTakes512Calls() {
        DelveKeep keep = new DelveKeep();
        keep.dig(0, 0, '.');
        keep.dig(1, 0, '.');
        keep.begin(0);
        for (int call = 4; call <= 510; call++) {
            Check.is("call " + call, keep.go(call % 2 == 0 ? 1 : 3), 'm');
        }
        Check.is("call 511", keep.isSame(), true);
        Check.is("call 512", keep.placeOf(0), 100);
        DelveKeep praying = new DelveKeep();
        praying.dig(0, 0, '.');
        praying.begin(0);
        for (int call = 3; call <= 512; call++) {
            Check.is("prayer " + call, praying.pray(), 2 - call);
        }
        Check.is("ticks of 512 calls", praying.tick(), 511);
        DelveKeep resting = new DelveKeep();
        resting.dig(0, 0, '.');
        resting.setHero(0, 0, 1, 30);
        resting.begin(0);
        for (int call = 4; call <= 511; call++) {
            Check.is("rest " + call, resting.rest(), 12 * (call - 2));
        }
        Check.is("the 512th call", resting.isSame(), true);
        DelveKeep telling = new DelveKeep();
        for (int call = 1; call <= 511; call++) {
            telling.dig(call % 12, call / 12 % 12, call % 2 == 0 ? '.' : '~');
        }
        Check.is("the 512th of what is told", telling.dig(511 % 12, 511 / 12 % 12, '#'), '~');
    }

    /** A log that loses one act anywhere would not lead to the same world. */
    private static void eachActIsInTheLog() {
        DelveKeep keep = Keeps.open();
        keep.setHero(5, 5, 12, 99);
        keep.setEffect(3, 'd', 1, 3);
        keep.setEffect(4, 's', 17, 1);
        keep.addBeast(2, 9, 7, 0, 30);
        for (int kind : new int[] {3, 4, 5, 6, 7}) {
            keep.addThing(kind, 5, 5, -1);
        }
        keep.begin(0);
        for (int act = 0; act < 340; act++) {
            deed(keep, act);
            Check.is("the log of " + act + " acts", keep.isSame(), true);
        }
    }

    private static void deed(DelveKeep keep, int act) {
        switch (act) {
            case 0: case 1: case 2: case 3: case 4:
                keep.take(act);
                break;
            case 5:
                keep.pack(0, 3);
                break;
            case 6:
                keep.hurl(1, 1);
                break;
            case 7:
                keep.pack(0, -1);
                break;
            case 8:
                keep.drink(0);
                break;
            case 9:
                keep.shout(30);
                break;
            case 10:
                keep.drop(4);
                break;
            case 11:
                keep.pray();
                break;
            default:
                keep.go(act * act % 7 % 4);
                break;
        }
    }

    private static void worldAfterWorldIn512Calls() {
        DelveKeep keep = Keeps.dug("@...");
        for (int world = 0; world < 40; world++) {
            Check.is("world " + world + " begins", keep.begin(world), 1);
            for (int act = 0; act < world % 5; act++) {
                keep.go(act < 3 ? 1 : 0);
            }
            Check.is("world " + world + " is the same", keep.isSame(), true);
            Check.is("world " + world + ", place", keep.placeOf(0), 100 * Math.min(3, world % 5));
            keep.leave();
            Check.is("world " + world + " is the same, left", keep.isSame(), true);
        }
    }
}
