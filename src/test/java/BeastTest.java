/** What the terms say of beasts and of sound, seen by promises 11, 12, 18, 25, 26 and 27. */
public final class BeastTest {
    private BeastTest() {
    }

    public static void main(String[] args) {
        aimIsTheHeroThatIsSeen();
        aimIsRemembered();
        aimIsLostWhereNobodyIs();
        goesByTheLowestWay();
        goesRoundWhatIsShut();
        opensDoors();
        findsNewWays();
        waitsBehindOthers();
        strikes();
        flees();
        fleesNot();
        blowsAreHeard();
        noiseGoesThroughDoors();
        noiseHasALength();
        Check.end();
    }

    private static void aimIsTheHeroThatIsSeen() {
        DelveKeep keep = Keeps.dug("@..#.", "..#..");
        keep.addBeast(2, 0, 12, 0, 1);
        keep.addBeast(4, 0, 12, 0, 1);
        keep.begin(0);
        Check.is("aim ahead of its turn", Keeps.aim(keep, 1), -1);
        keep.rest();
        Check.is("aim of one that sees", keep.aimOf(1), 0);
        Check.is("it comes", keep.placeOf(1), 100);
        Check.is("aim of one that does not", Keeps.aim(keep, 2), -1);
        Check.is("it stays", keep.placeOf(2), 400);
        keep.go(2);
        Check.is("the aim follows the hero", keep.aimOf(1), 1);
        DelveKeep dark = Keeps.dug("@..........");
        dark.addBeast(10, 0, 12, 0, 1);
        dark.begin(0);
        dark.rest();
        Check.is("beasts see in the dark", dark.aimOf(1), 0);
    }

    private static void aimIsRemembered() {
        DelveKeep keep = Keeps.dug("....@", ".###.", ".....");
        keep.addBeast(0, 0, 6, 0, 1);
        keep.begin(0);
        keep.rest();
        keep.rest();
        Check.is("it saw", keep.aimOf(1), 400);
        Check.is("it came", keep.placeOf(1), 100);
        keep.go(2);
        keep.go(2);
        Check.is("out of sight, the aim is kept", keep.aimOf(1), 400);
        Check.is("it goes on", keep.placeOf(1), 200);
        DelveKeep left = Keeps.dug("@.");
        left.addBeast(1, 0, 12, 0, 1);
        left.begin(0);
        left.rest();
        left.leave();
        Check.is("the aim is kept when the world is left", left.aimOf(1), 0);
        DelveKeep dead = Keeps.dug("@.");
        dead.addBeast(1, 0, 13, 0, 1);
        dead.begin(0);
        dead.go(1);
        Check.is("the aim is kept by the dead", dead.aimOf(1), 0);
    }

    private static void aimIsLostWhereNobodyIs() {
        DelveKeep keep = Keeps.dug("....", ".###", "....", "###.", "....");
        keep.setHero(2, 2, 24, 30);
        keep.addBeast(0, 0, 6, 0, 30);
        keep.begin(0);
        keep.shout(30);
        Check.is("aim by ear", keep.aimOf(1), 202);
        for (int way : new int[] {1, 2, 2, 3, 3, 3}) {
            Check.is("the hero steals away", keep.go(way), 'm');
        }
        for (int turn = 0; turn < 40 && keep.placeOf(1) != 202; turn++) {
            Check.is("aim on the way, turn " + turn, keep.aimOf(1), 202);
            keep.rest();
        }
        Check.is("it comes where the noise was", keep.placeOf(1), 202);
        Check.is("nobody is there, no aim", Keeps.aim(keep, 1), -1);
        Keeps.rest(keep, 8);
        Check.is("without an aim it stays", keep.placeOf(1), 202);
        DelveKeep seen = Keeps.dug("......", ".####.", "......");
        seen.addBeast(5, 0, 12, 0, 30);
        seen.begin(0);
        Keeps.rest(seen, 5);
        Check.is("where the hero is, the aim is kept", seen.aimOf(1), 0);
    }

    private static void goesByTheLowestWay() {
        int[][] cases = {{3, 7, 306}, {7, 3, 704}, {7, 7, 706}, {3, 3, 403}};
        for (int[] row : cases) {
            DelveKeep keep = Keeps.open();
            keep.setHero(5, 5, 12, 30);
            keep.addBeast(row[0], row[1], 12, 0, 1);
            keep.begin(0);
            keep.rest();
            Check.is("lowest way from " + row[0] + " " + row[1], keep.placeOf(1), row[2]);
        }
    }

    private static void goesRoundWhatIsShut() {
        DelveKeep keep = Keeps.dug("@0..", "...1", "####");
        keep.addBeast(2, 0, 12, 0, 1);
        keep.begin(0);
        keep.shout(30);
        Check.is("round a locked door", keep.placeOf(1), 201);
        Check.is("it is locked still", keep.cell(1, 0), '0');
        DelveKeep cut = Keeps.dug("@0.");
        cut.addBeast(2, 0, 12, 0, 1);
        cut.begin(0);
        Check.is("heard through a lock", cut.shout(4), 1);
        Check.is("no way through it", cut.placeOf(1), 200);
        Check.is("the aim is kept", cut.aimOf(1), 0);
        Check.is("the lock is kept", cut.cell(1, 0), '0');
        DelveKeep corner = Keeps.dug("@#", "#.");
        corner.addBeast(1, 1, 12, 0, 1);
        corner.begin(0);
        corner.rest();
        Check.is("seen round a corner", corner.aimOf(1), 0);
        Check.is("but there is no way", corner.placeOf(1), 101);
    }

    private static void opensDoors() {
        DelveKeep keep = Keeps.dug("@.+.");
        keep.addBeast(3, 0, 12, 3, 30);
        keep.begin(0);
        keep.shout(30);
        Check.is("it opens", keep.cell(2, 0), '/');
        Check.is("in place of going", keep.placeOf(1), 300);
        keep.rest();
        Check.is("then it goes", keep.placeOf(1), 200);
        keep.rest();
        keep.rest();
        Check.is("then it strikes", keep.healthOf(0), 27);
        DelveKeep tie = Keeps.dug(".+.", "@#.", "...");
        tie.setHero(0, 1, 12, 30);
        tie.addBeast(2, 0, 12, 0, 1);
        tie.begin(0);
        tie.shout(30);
        Check.is("a door is a step like others", tie.cell(1, 0), '/');
        DelveKeep lower = Keeps.dug("@.", "+.", "..");
        lower.setHero(0, 0, 12, 30);
        lower.addBeast(0, 2, 12, 0, 1);
        lower.begin(0);
        lower.shout(30);
        Check.is("by the nearest way, through a door", lower.cell(0, 1), '/');
    }

    /** Distances are those of the cells as they are now. */
    private static void findsNewWays() {
        DelveKeep lock = Keeps.dug("@0..");
        lock.addThing(0, 0, 0, -1);
        lock.addBeast(3, 0, 12, 0, 30);
        lock.begin(0);
        lock.take(0);
        lock.shout(30);
        lock.rest();
        Check.is("no way yet", lock.placeOf(1), 300);
        lock.go(1);
        Check.is("a way through the lock that was opened", lock.placeOf(1), 200);
        lock.leave();
        lock.begin(0);
        lock.shout(30);
        Check.is("no way in the next world", lock.placeOf(1), 300);
        lock.leave();
        lock.dig(1, 0, '.');
        lock.begin(0);
        lock.shout(30);
        Check.is("a way that is told", lock.placeOf(1), 200);
        DelveKeep tie = Keeps.dug("@+", "..");
        tie.addBeast(1, 1, 12, 0, 1);
        tie.begin(0);
        tie.rest();
        Check.is("a door is as near as a free cell", tie.cell(1, 0), '/');
    }

    private static void waitsBehindOthers() {
        DelveKeep keep = Keeps.dug("@...");
        keep.addBeast(1, 0, 12, 1, 1);
        keep.addBeast(2, 0, 12, 1, 1);
        keep.begin(0);
        Keeps.rest(keep, 2);
        Check.is("one strikes", keep.healthOf(0), 28);
        Check.is("one waits", keep.placeOf(2), 200);
        keep.go(1);
        Check.is("then it goes over the dead", keep.placeOf(2), 100);
        DelveKeep round = Keeps.dug("@...", ".#..", "....");
        round.addBeast(1, 0, 1, 0, 30);
        round.addBeast(2, 0, 12, 0, 30);
        round.begin(0);
        Keeps.rest(round, 3);
        Check.is("it does not go round, as that is no nearer", round.placeOf(2), 200);
    }

    private static void strikes() {
        int[][] beside = {{5, 4}, {6, 5}, {5, 6}, {4, 5}};
        for (int[] place : beside) {
            DelveKeep keep = Keeps.open();
            keep.setHero(5, 5, 12, 30);
            keep.addBeast(place[0], place[1], 12, 9, 1);
            keep.begin(0);
            keep.rest();
            Check.is("strikes from " + place[0] + " " + place[1], keep.healthOf(0), 21);
            Check.is("stays", keep.placeOf(1), 100 * place[0] + place[1]);
        }
        DelveKeep slant = Keeps.open();
        slant.setHero(5, 5, 12, 30);
        slant.addBeast(6, 6, 12, 9, 1);
        slant.begin(0);
        slant.rest();
        Check.is("not slantwise", slant.healthOf(0), 30);
        Check.is("it comes nearer", slant.placeOf(1), 605);
        DelveKeep door = Keeps.dug("@/.");
        door.addBeast(2, 0, 12, 2, 1);
        door.begin(0);
        Keeps.rest(door, 2);
        Check.is("it goes into an open door and strikes", door.healthOf(0), 28);
        DelveKeep twice = Keeps.dug("@.");
        twice.addBeast(1, 0, 24, 2, 1);
        twice.begin(0);
        Check.is("a quick beast strikes ahead", twice.healthOf(0), 28);
        twice.rest();
        Check.is("and twice a tick", twice.healthOf(0), 24);
        DelveKeep death = Keeps.dug("@.");
        death.setHero(0, 0, 12, 4);
        death.addBeast(1, 0, 24, 3, 1);
        death.begin(0);
        Check.is("3 less", death.healthOf(0), 1);
        death.rest();
        Check.is("dead, and struck no more", death.healthOf(0), -2);
        Check.is("dead", death.state(), 'd');
    }

    /** A world in which beast 1 of 9 health at a place is weakened to 2 while it waits. */
    private static DelveKeep weakened(int x, int y, String... rows) {
        DelveKeep keep = Keeps.dug(rows);
        keep.setEffect(3, 'd', 7, 3);
        keep.setEffect(4, 'h', 20, 0);
        keep.addThing(3, keep.placeOf(0) / 100, keep.placeOf(0) % 100, -1);
        keep.addThing(4, keep.placeOf(0) / 100, keep.placeOf(0) % 100, -1);
        keep.addBeast(x, y, 3, 5, 9);
        keep.begin(0);
        keep.take(0);
        keep.hurl(0, 3);
        return keep;
    }

    private static void flees() {
        DelveKeep keep = weakened(2, 0, "@......");
        Check.is("weakened", keep.healthOf(1), 2);
        Check.is("its turn comes later", keep.placeOf(1), 200);
        Keeps.rest(keep, 2);
        Check.is("it flees", keep.placeOf(1), 300);
        Check.is("its aim is the hero's cell", keep.aimOf(1), 0);
        Keeps.rest(keep, 4);
        Check.is("further", keep.placeOf(1), 400);
        DelveKeep beside = weakened(1, 0, "@..");
        Keeps.rest(beside, 2);
        Check.is("it does not strike", beside.healthOf(0), 23);
        Check.is("it flees from beside", beside.placeOf(1), 200);
        Keeps.rest(beside, 8);
        Check.is("at the end it stays", beside.placeOf(1), 200);
        DelveKeep lowest = weakened(2, 1, "....", "@...", "....");
        Keeps.rest(lowest, 2);
        Check.is("it flees by the lowest way", lowest.placeOf(1), 200);
    }

    private static void fleesNot() {
        DelveKeep third = Keeps.dug("@.");
        third.addBeast(1, 0, 12, 1, 9);
        third.begin(0);
        third.go(1);
        third.go(1);
        Check.is("at a third", third.healthOf(1), 3);
        Check.is("it strikes at a third", third.healthOf(0), 28);
        DelveKeep unaware = Keeps.dug("@#..", "....");
        unaware.setEffect(3, 'd', 7, 3);
        unaware.addThing(3, 0, 0, -1);
        unaware.addBeast(3, 0, 12, 1, 9);
        unaware.begin(0);
        unaware.take(0);
        Check.is("no aim yet", Keeps.aim(unaware, 1), -1);
        unaware.hurl(0, 3);
        Check.is("weak, with an aim by ear", unaware.aimOf(1), 0);
        Check.is("its own cell is the farthest", unaware.placeOf(1), 300);
        DelveKeep door = weakened(2, 0, "@..+.");
        Keeps.rest(door, 8);
        Check.is("it does not flee into a closed door", door.placeOf(1), 200);
        Check.is("nor opens it", door.cell(3, 0), '+');
        DelveKeep lock = Keeps.dug("@0...");
        lock.setEffect(3, 'd', 7, 3);
        lock.addThing(3, 0, 0, -1);
        lock.addBeast(3, 0, 12, 1, 9);
        lock.begin(0);
        lock.take(0);
        lock.hurl(0, 1);
        Check.is("weak behind a lock, with an aim", lock.aimOf(1), 0);
        Keeps.rest(lock, 3);
        Check.is("without distances it stays", lock.placeOf(1), 300);
    }

    private static void blowsAreHeard() {
        DelveKeep keep = Keeps.dug("@...", "##..", "...+", ".###");
        keep.addBeast(1, 0, 1, 0, 30);
        keep.addBeast(0, 2, 1, 0, 30);
        keep.addBeast(0, 3, 1, 0, 30);
        keep.begin(0);
        keep.go(1);
        Check.is("who is struck hears it", keep.aimOf(1), 100);
        Check.is("5 steps off it is heard", keep.aimOf(2), 100);
        Check.is("6 steps off it is heard", keep.aimOf(3), 100);
        DelveKeep far = Keeps.dug("@.......", "########");
        far.addBeast(1, 0, 1, 0, 3);
        far.addBeast(7, 0, 1, 0, 30);
        far.begin(0);
        far.go(1);
        Check.is("6 cells off it is heard", far.aimOf(2), 100);
        Check.is("the dead hear nothing", Keeps.aim(far, 1), -1);
        DelveKeep further = Keeps.dug("@........");
        further.addBeast(1, 0, 1, 0, 3);
        further.addBeast(8, 0, 1, 0, 30);
        further.begin(0);
        further.go(1);
        Check.is("7 cells off it is not", Keeps.aim(further, 2), -1);
        DelveKeep struck = Keeps.dug("@.....", "#####.", "......");
        struck.addBeast(1, 0, 13, 0, 30);
        struck.addBeast(5, 1, 1, 0, 30);
        struck.begin(0);
        Check.is("a beast's blow is heard at the hero's cell", struck.aimOf(2), 0);
        Check.is("also without strength", struck.healthOf(0), 30);
        DelveKeep potion = Keeps.dug("@......", "######.");
        potion.addThing(3, 0, 0, -1);
        potion.addBeast(6, 1, 1, 0, 30);
        potion.begin(0);
        potion.take(0);
        potion.hurl(0, 1);
        Check.is("a broken potion is heard", potion.aimOf(1), 500);
    }

    private static void noiseGoesThroughDoors() {
        for (char sign : "+012".toCharArray()) {
            DelveKeep keep = Keeps.dug("@." + sign + "..");
            keep.addBeast(4, 0, 1, 0, 30);
            keep.begin(0);
            Check.is("5 through " + sign, keep.shout(5), 0);
            Check.is("6 through " + sign, keep.shout(6), 1);
        }
        DelveKeep open = Keeps.dug("@./~.");
        open.addBeast(4, 0, 1, 0, 30);
        open.begin(0);
        Check.is("3 through an open door", open.shout(3), 0);
        Check.is("4 through an open door", open.shout(4), 1);
        DelveKeep round = Keeps.dug("@+.", ".#.", "...");
        round.addBeast(2, 0, 1, 0, 30);
        round.begin(0);
        Check.is("through the door it is 4", round.shout(4), 1);
        DelveKeep about = Keeps.dug("@++.", "....");
        about.addBeast(3, 0, 1, 0, 30);
        about.begin(0);
        Check.is("round the doors 4 is not enough", about.shout(4), 0);
        Check.is("round the doors it is 5", about.shout(5), 1);
        DelveKeep both = Keeps.dug("@+..+.", "....#.", "....#.", "......");
        both.addBeast(5, 0, 1, 0, 30);
        both.begin(0);
        Check.is("the doors and the way round are as long", both.shout(8), 0);
        Check.is("9 steps", both.shout(9), 1);
        DelveKeep twice = Keeps.dug("@+2.....", "..#####.", "........");
        twice.addBeast(7, 0, 1, 0, 30);
        twice.begin(0);
        Check.is("round two doors or through them", twice.shout(10), 0);
        Check.is("11 steps", twice.shout(11), 1);
        DelveKeep shorter = Keeps.dug("@+++.", ".###.", ".....");
        shorter.addBeast(4, 0, 1, 0, 30);
        shorter.begin(0);
        Check.is("round three doors it is shorter", shorter.shout(7), 0);
        Check.is("8 steps", shorter.shout(8), 1);
        DelveKeep three = Keeps.dug("@+01.");
        three.addBeast(4, 0, 1, 0, 30);
        three.begin(0);
        Check.is("9 through three", three.shout(9), 0);
        Check.is("10 through three", three.shout(10), 1);
    }

    private static void noiseHasALength() {
        DelveKeep keep = Keeps.open();
        keep.setHero(0, 0, 12, 30);
        keep.addBeast(11, 11, 1, 0, 30);
        keep.begin(0);
        Check.is("21 steps", keep.shout(21), 0);
        Check.is("22 steps", keep.shout(22), 1);
    }
}
