import java.util.NoSuchElementException;

/** Promises 22 to 31, 33 and 34: what is asked. */
public final class AskTest {
    private static final Class<IndexOutOfBoundsException> NONE = IndexOutOfBoundsException.class;
    private static final Class<IllegalStateException> NOT_NOW = IllegalStateException.class;
    private static final Class<NoSuchElementException> NO_AIM = NoSuchElementException.class;
    private static final Class<ArithmeticException> NO_NUMBER = ArithmeticException.class;

    private AskTest() {
    }

    public static void main(String[] args) {
        promise22Cell();
        promise23See();
        promise23EvenBothWays();
        promise24HeroSees();
        promise24Lamps();
        promise25PlaceOf();
        promise26HealthOf();
        promise27AimOf();
        promise28WhereIs();
        promise29WeightOf();
        promise30NameOf();
        promise31IsReachable();
        promise31Keys();
        promise33LivingShare();
        promise34MeanHealth();
        Check.end();
    }

    private static void promise22Cell() {
        DelveKeep keep = Keeps.dug("@+");
        Check.is("P22 told", keep.cell(1, 0), '+');
        for (int[] wrong : new int[][] {{-1, 0}, {12, 0}, {0, -1}, {0, 12}}) {
            Check.refused("P22 " + wrong[0] + " " + wrong[1], keep, NONE, () -> keep.cell(wrong[0], wrong[1]));
        }
        keep.begin(0);
        keep.go(1);
        Check.is("P22 of the world", keep.cell(1, 0), '/');
        keep.leave();
        Check.is("P22 of the world that was", keep.cell(1, 0), '/');
        keep.begin(0);
        Check.is("P22 of the next world", keep.cell(1, 0), '+');
    }

    private static void promise23See() {
        DelveKeep keep = Keeps.dug(".....", ".#...", ".....", ".....");
        Check.is("P23 itself", keep.see(0, 0, 0, 0), true);
        Check.is("P23 itself in rock", keep.see(1, 1, 1, 1), true);
        Check.is("P23 along", keep.see(0, 0, 4, 0), true);
        Check.is("P23 rock at the end", keep.see(4, 1, 1, 1), true);
        Check.is("P23 rock at both ends", keep.see(5, 0, 1, 1), true);
        Check.is("P23 through rock along", keep.see(0, 1, 4, 1), false);
        Check.is("P23 through rock slantwise", keep.see(0, 0, 2, 2), false);
        Check.is("P23 past a corner", keep.see(0, 1, 1, 0), true);
        Check.is("P23 past a corner, further", keep.see(0, 1, 1, 2), true);
        Check.is("P23 past a corner of rock, longer", keep.see(0, 2, 2, 0), false);
        Check.is("P23 knight's move through rock", keep.see(0, 0, 1, 2), false);
        Check.is("P23 knight's move off rock", keep.see(2, 0, 3, 2), true);
        Check.is("P23 flat line that cuts rock", keep.see(0, 0, 2, 1), false);
        Check.is("P23 flat line beside rock", keep.see(2, 1, 4, 2), true);
        Check.is("P23 line that touches a corner alone", keep.see(0, 0, 3, 1), true);
        Check.is("P23 line that touches another corner alone", keep.see(0, 2, 3, 1), true);
        Check.is("P23 line that cuts a corner off", keep.see(0, 0, 4, 2), false);
        DelveKeep corners = Keeps.dug(".#.", "#.#", ".#.");
        Check.is("P23 between corners", corners.see(0, 0, 2, 2), true);
        Check.is("P23 between corners, other way", corners.see(2, 0, 0, 2), true);
        DelveKeep touch = Keeps.dug("..#..", ".....", "##...");
        Check.is("P23 through a cell's corner", touch.see(0, 1, 3, 0), false);
        Check.is("P23 along borders", touch.see(0, 1, 4, 1), true);
        for (char sign : ".~/#+012".toCharArray()) {
            DelveKeep one = Keeps.dug("." + sign + ".");
            boolean isFree = sign == '.' || sign == '~' || sign == '/';
            Check.is("P23 through " + sign, one.see(0, 0, 2, 0), isFree);
            Check.is("P23 onto " + sign, one.see(0, 0, 1, 0), true);
        }
        int[][] wrong = {{-1, 0, 0, 0}, {12, 0, 0, 0}, {0, -1, 0, 0}, {0, 12, 0, 0},
            {0, 0, -1, 0}, {0, 0, 12, 0}, {0, 0, 0, -1}, {0, 0, 0, 12}};
        for (int[] row : wrong) {
            Check.refused("P23 wrong", keep, NONE, () -> keep.see(row[0], row[1], row[2], row[3]));
        }
        DelveKeep door = Keeps.dug("@+.");
        door.begin(0);
        Check.is("P23 shut", door.see(0, 0, 2, 0), false);
        door.go(1);
        Check.is("P23 opened in the world", door.see(0, 0, 2, 0), true);
        door.leave();
        Check.is("P23 of the world that was", door.see(0, 0, 2, 0), true);
        door.addLamp(0, 0, 0);
        Check.is("P23 told again", door.see(0, 0, 2, 0), false);
    }

    private static void promise23EvenBothWays() {
        DelveKeep keep = Keeps.dug("....#.......", ".#......#...", "...#....~...", "..+.....1...", ".......#....");
        for (int one = 0; one < 60; one++) {
            for (int other = 0; other < one; other++) {
                boolean there = keep.see(one % 12, one / 12, other % 12, other / 12);
                boolean back = keep.see(other % 12, other / 12, one % 12, one / 12);
                Check.is("P23 even " + one + " " + other, there, back);
            }
        }
    }

    private static void promise24HeroSees() {
        DelveKeep keep = Keeps.dug("...", ".@.", "...", "...");
        Check.refused("P24 no world", keep, NOT_NOW, () -> keep.heroSees(0, 0));
        Check.refused("P24 no world, place first", keep, NONE, () -> keep.heroSees(12, 0));
        keep.begin(0);
        for (int x = 0; x < 4; x++) {
            for (int y = 0; y < 4; y++) {
                Check.is("P24 dark " + x + " " + y, keep.heroSees(x, y), x <= 2 && y <= 2);
            }
        }
        for (int[] wrong : new int[][] {{-1, 0}, {12, 0}, {0, -1}, {0, 12}}) {
            Check.refused("P24 wrong", keep, NONE, () -> keep.heroSees(wrong[0], wrong[1]));
        }
        keep.leave();
        Check.refused("P24 left", keep, NOT_NOW, () -> keep.heroSees(0, 0));
    }

    private static void promise24Lamps() {
        int[][] offs = {{0, 0, 0}, {1, 0, 1}, {1, 1, 2}, {2, 1, 5}, {3, 0, 9}, {2, 2, 8}, {3, 1, 10}, {4, 0, 16}};
        for (int radius = 0; radius <= 4; radius++) {
            DelveKeep keep = Keeps.open();
            keep.setHero(0, 11, 12, 30);
            keep.addLamp(6, 5, radius);
            keep.begin(0);
            for (int[] off : offs) {
                boolean due = off[2] <= radius * radius;
                String label = "P24 radius " + radius + " off " + off[0] + " " + off[1];
                Check.is(label, keep.heroSees(6 + off[0], 5 + off[1]), due);
                Check.is(label + " the other way", keep.heroSees(6 - off[1], 5 - off[0]), due);
            }
        }
        DelveKeep shade = Keeps.dug("@......", ".......", "..#....", ".......");
        shade.addLamp(2, 3, 9);
        shade.begin(0);
        Check.is("P24 lit", shade.heroSees(5, 0), true);
        Check.is("P24 in the shade", shade.heroSees(2, 0), false);
        Check.is("P24 in the shade, rock is lit", shade.heroSees(2, 2), true);
        Check.is("P24 lit but not seen", shade.see(0, 0, 4, 3), false);
        Check.is("P24 lit, and hidden by rock", shade.heroSees(4, 3), false);
        shade.leave();
        shade.addLamp(2, 1, 1);
        shade.begin(0);
        Check.is("P24 a second lamp", shade.heroSees(2, 0), true);
        DelveKeep opened = Keeps.dug("@+...");
        opened.addLamp(4, 0, 3);
        opened.begin(0);
        Check.is("P24 behind a door", opened.heroSees(2, 0), false);
        opened.go(1);
        Check.is("P24 through an open door", opened.heroSees(2, 0), true);
        Check.is("P24 the lamp's own cell", opened.heroSees(4, 0), true);
    }

    private static void promise25PlaceOf() {
        DelveKeep keep = Keeps.dug("@...");
        keep.addBeast(2, 0, 12, 0, 3);
        Check.is("P25 told", keep.placeOf(1), 200);
        Check.refused("P25 creature -1", keep, NONE, () -> keep.placeOf(-1));
        Check.refused("P25 creature 2", keep, NONE, () -> keep.placeOf(2));
        keep.begin(0);
        keep.rest();
        Check.is("P25 of the world", keep.placeOf(1), 100);
        keep.go(1);
        keep.go(1);
        keep.go(1);
        Check.is("P25 of the dead", keep.placeOf(1), 100);
        Check.is("P25 of the hero", keep.placeOf(0), 200);
        keep.leave();
        Check.is("P25 of the world that was", keep.placeOf(0), 200);
    }

    private static void promise26HealthOf() {
        DelveKeep keep = Keeps.dug("@.");
        keep.addBeast(1, 0, 1, 0, 4);
        Check.is("P26 told", keep.healthOf(1), 4);
        Check.is("P26 of the hero", keep.healthOf(0), 30);
        Check.refused("P26 creature -1", keep, NONE, () -> keep.healthOf(-1));
        Check.refused("P26 creature 2", keep, NONE, () -> keep.healthOf(2));
        keep.begin(0);
        keep.go(1);
        keep.go(1);
        Check.is("P26 less than 0", keep.healthOf(1), -2);
        keep.leave();
        Check.is("P26 of the world that was", keep.healthOf(1), -2);
        keep.addLamp(0, 0, 0);
        Check.is("P26 told again", keep.healthOf(1), 4);
    }

    private static void promise27AimOf() {
        DelveKeep keep = Keeps.dug("...", "..@");
        keep.addBeast(0, 0, 12, 0, 4);
        Check.refused("P27 told", keep, NO_AIM, () -> keep.aimOf(1));
        Check.refused("P27 the hero is no beast", keep, NONE, () -> keep.aimOf(0));
        Check.refused("P27 beast -1", keep, NONE, () -> keep.aimOf(-1));
        Check.refused("P27 beast 2", keep, NONE, () -> keep.aimOf(2));
        keep.begin(0);
        Check.refused("P27 none yet", keep, NO_AIM, () -> keep.aimOf(1));
        keep.rest();
        Check.is("P27 aim", keep.aimOf(1), 201);
        keep.leave();
        Check.is("P27 of the world that was", keep.aimOf(1), 201);
        keep.addLamp(0, 0, 0);
        Check.refused("P27 told again", keep, NO_AIM, () -> keep.aimOf(1));
    }

    private static void promise28WhereIs() {
        DelveKeep keep = Keeps.dug("@.");
        keep.addThing(6, 0, 0, -1);
        keep.addThing(3, 0, 0, 0);
        keep.addThing(0, 11, 10, -1);
        Check.is("P28 lies", keep.whereIs(2), 1110);
        Check.is("P28 in a bag", keep.whereIs(1), -3);
        Check.refused("P28 thing -1", keep, NONE, () -> keep.whereIs(-1));
        Check.refused("P28 thing 3", keep, NONE, () -> keep.whereIs(3));
        keep.begin(0);
        keep.take(0);
        Check.is("P28 carried", keep.whereIs(0), -1);
        Check.is("P28 in a bag that is carried", keep.whereIs(1), -3);
        keep.pack(1, -1);
        Check.is("P28 in the hands", keep.whereIs(1), -1);
        keep.drink(1);
        Check.is("P28 gone", keep.whereIs(1), -2);
        keep.go(1);
        keep.drop(0);
        Check.is("P28 dropped", keep.whereIs(0), 100);
        keep.leave();
        Check.is("P28 of the world that was", keep.whereIs(1), -2);
        keep.addLamp(0, 0, 0);
        Check.is("P28 told again", keep.whereIs(1), -3);
    }

    private static void promise29WeightOf() {
        DelveKeep keep = Keeps.dug("@.");
        keep.setKind(6, 2, false);
        keep.setKind(3, 5, false);
        keep.setKind(0, 0, false);
        keep.addThing(6, 0, 0, -1);
        keep.addThing(6, 0, 0, 0);
        keep.addThing(3, 0, 0, 1);
        keep.addThing(0, 0, 0, 1);
        keep.addThing(7, 0, 0, 0);
        Check.is("P29 all", keep.weightOf(0), 10);
        Check.is("P29 the inner one", keep.weightOf(1), 7);
        Check.is("P29 a potion", keep.weightOf(2), 5);
        Check.is("P29 nothing", keep.weightOf(3), 0);
        Check.refused("P29 thing -1", keep, NONE, () -> keep.weightOf(-1));
        Check.refused("P29 thing 5", keep, NONE, () -> keep.weightOf(5));
        keep.begin(0);
        keep.take(0);
        keep.pack(2, -1);
        keep.drink(2);
        Check.is("P29 what is gone is in it no more", keep.weightOf(0), 5);
        Check.is("P29 what is gone has its weight", keep.weightOf(2), 5);
        keep.leave();
        Check.is("P29 of the world that was", keep.weightOf(0), 5);
        keep.setKind(0, 9, false);
        Check.is("P29 told again", keep.weightOf(0), 19);
    }

    private static void promise30NameOf() {
        DelveKeep keep = Keeps.dug("@.");
        for (int kind = 0; kind < 8; kind++) {
            keep.addThing(kind, 0, 0, -1);
        }
        keep.addThing(4, 0, 0, -1);
        Check.refused("P30 no world", keep, NOT_NOW, () -> keep.nameOf(0));
        Check.refused("P30 no world, thing first", keep, NONE, () -> keep.nameOf(9));
        keep.begin(5);
        int[] due = {0, 1, 2, 102, 101, 100, 6, 7, 101};
        for (int thing = 0; thing < due.length; thing++) {
            Check.is("P30 thing " + thing, keep.nameOf(thing), due[thing]);
        }
        Check.refused("P30 thing -1", keep, NONE, () -> keep.nameOf(-1));
        Check.refused("P30 thing 9", keep, NONE, () -> keep.nameOf(9));
        keep.take(4);
        Check.is("P30 carried, not known", keep.nameOf(4), 101);
        keep.drink(4);
        keep.take(5);
        keep.hurl(5, 1);
        int[] known = {0, 1, 2, 102, 4, 5, 6, 7, 4};
        for (int thing = 0; thing < known.length; thing++) {
            Check.is("P30 known, thing " + thing, keep.nameOf(thing), known[thing]);
        }
        keep.leave();
        Check.refused("P30 left", keep, NOT_NOW, () -> keep.nameOf(0));
    }

    private static void promise31IsReachable() {
        DelveKeep keep = Keeps.dug("@.+.0.", "##~###", "  /.. ", "#####.");
        keep.addBeast(1, 0, 1, 0, 1);
        Check.refused("P31 no world", keep, NOT_NOW, () -> keep.isReachable(0, 0));
        Check.refused("P31 no world, place first", keep, NONE, () -> keep.isReachable(0, 12));
        keep.begin(0);
        String[] due = {"rrrr--", "--r---", "--rrr-", "------"};
        for (int x = 0; x < 12; x++) {
            for (int y = 0; y < 12; y++) {
                boolean isDue = y < 4 && x < 6 && due[y].charAt(x) == 'r';
                Check.is("P31 " + x + " " + y, keep.isReachable(x, y), isDue);
            }
        }
        for (int[] wrong : new int[][] {{-1, 0}, {12, 0}, {0, -1}, {0, 12}}) {
            Check.refused("P31 wrong", keep, NONE, () -> keep.isReachable(wrong[0], wrong[1]));
        }
        keep.leave();
        Check.refused("P31 left", keep, NOT_NOW, () -> keep.isReachable(0, 0));
    }

    private static void promise31Keys() {
        DelveKeep chain = Keeps.dug("@0.1.2.");
        chain.addThing(0, 0, 0, -1);
        chain.addThing(1, 2, 0, -1);
        chain.addThing(2, 4, 0, -1);
        chain.begin(0);
        Check.is("P31 key by key", chain.isReachable(6, 0), true);
        Check.is("P31 a lock whose key can be had", chain.isReachable(5, 0), true);
        DelveKeep back = Keeps.dug(".2.1@0.");
        back.addThing(0, 4, 0, -1);
        back.addThing(1, 6, 0, -1);
        back.addThing(2, 2, 0, -1);
        back.begin(0);
        Check.is("P31 there and back", back.isReachable(0, 0), true);
        DelveKeep behind = Keeps.dug("@0..");
        behind.addThing(0, 2, 0, -1);
        behind.begin(0);
        Check.is("P31 the key is behind its lock", behind.isReachable(2, 0), false);
        Check.is("P31 nor the lock", behind.isReachable(1, 0), false);
        DelveKeep bags = Keeps.dug("@.1.");
        bags.setKind(6, 9, false);
        bags.addThing(6, 1, 0, -1);
        bags.addThing(6, 0, 0, 0);
        bags.addThing(6, 0, 0, 1);
        bags.addThing(6, 0, 0, 2);
        bags.addThing(1, 0, 0, 3);
        bags.begin(0);
        Check.is("P31 a key deep in bags that lie there, however heavy", bags.isReachable(3, 0), true);
        DelveKeep hands = Keeps.dug("@2.");
        hands.addThing(6, 0, 0, -1);
        hands.addThing(2, 0, 0, 0);
        hands.addThing(2, 7, 7, -1);
        hands.begin(0);
        hands.take(0);
        Check.is("P31 a key in a bag that is carried", hands.isReachable(2, 0), true);
        hands.pack(1, -1);
        Check.is("P31 a key in the hands", hands.isReachable(2, 0), true);
        DelveKeep gone = Keeps.dug("@0.");
        gone.setKind(0, 1, true);
        gone.setEffect(3, 'f', 1, 0);
        gone.addThing(0, 0, 0, -1);
        gone.addThing(3, 0, 0, -1);
        gone.addThing(1, 0, 0, -1);
        gone.begin(0);
        gone.take(1);
        Check.is("P31 a key that lies here", gone.isReachable(2, 0), true);
        gone.drink(1);
        Check.is("P31 a key that is burnt", gone.isReachable(2, 0), false);
        DelveKeep water = Keeps.dug("@#~");
        water.begin(0);
        Check.is("P31 not through rock", water.isReachable(2, 0), false);
        DelveKeep rock = Keeps.dug("@#0.");
        rock.addThing(0, 1, 0, -1);
        rock.begin(0);
        Check.is("P31 a key in rock", rock.isReachable(3, 0), false);
    }

    private static void promise33LivingShare() {
        DelveKeep keep = Keeps.dug("@....");
        Check.refused("P33 no beasts", keep, NO_NUMBER, keep::livingShare);
        for (int beast = 1; beast <= 3; beast++) {
            keep.addBeast(beast, 0, 1, 0, 3);
        }
        Check.is("P33 told", keep.livingShare(), 1f);
        keep.begin(0);
        keep.go(1);
        Check.is("P33 two of three", keep.livingShare(), 2f / 3f);
        keep.go(1);
        keep.go(1);
        Check.is("P33 one of three", keep.livingShare(), 1f / 3f);
        keep.go(1);
        keep.go(1);
        Check.is("P33 none of three", keep.livingShare(), 0f);
        keep.leave();
        Check.is("P33 of the world that was", keep.livingShare(), 0f);
        keep.addLamp(0, 0, 0);
        Check.is("P33 told again", keep.livingShare(), 1f);
        DelveKeep on = Keeps.dug("@");
        on.begin(0);
        Check.refused("P33 none in a world", on, NO_NUMBER, on::livingShare);
    }

    private static void promise34MeanHealth() {
        DelveKeep keep = Keeps.dug("@..");
        Check.is("P34 the hero alone", keep.meanHealth(), 30.0);
        keep.addBeast(1, 0, 1, 0, 4);
        keep.addBeast(2, 0, 1, 0, 7);
        Check.is("P34 told", keep.meanHealth(), 41.0 / 3.0);
        keep.begin(0);
        keep.go(1);
        Check.is("P34 in a world", keep.meanHealth(), 38.0 / 3.0);
        keep.go(1);
        Check.is("P34 the dead do not count", keep.meanHealth(), 18.5);
        DelveKeep dead = Keeps.dug("@.");
        dead.setHero(0, 0, 12, 3);
        dead.setEffect(3, 'd', 20, 1);
        dead.addThing(3, 0, 0, -1);
        dead.addBeast(1, 0, 1, 0, 21);
        dead.begin(0);
        dead.take(0);
        dead.hurl(0, 3);
        Check.is("P34 the hero is dead", dead.state(), 'd');
        Check.is("P34 a dead hero does not count", dead.meanHealth(), 1.0);
        DelveKeep all = Keeps.dug("@.");
        all.setHero(0, 0, 12, 3);
        all.setEffect(3, 'd', 20, 1);
        all.addThing(3, 0, 0, -1);
        all.addBeast(1, 0, 1, 0, 20);
        all.begin(0);
        all.take(0);
        all.hurl(0, 3);
        Check.refused("P34 none lives", all, NO_NUMBER, all::meanHealth);
        Check.is("P34 none of the beasts", all.livingShare(), 0f);
    }
}
