/** The edges of what the document says of sound: how far it is heard, through what, and by whom. */
public final class SoundEdgesTest {
    private SoundEdgesTest() {
    }

    public static void main(String[] args) {
        loudnessIsALength();
        doorsCountThree();
        upToThirtyThroughDoors();
        theCellInWhichOneComesCounts();
        theShortestWayCounts();
        doorsAllOver();
        noWayNoSound();
        allSevenHear();
        theDeadDoNotHear();
        aBlowIsHeardSixStepsOff();
        aBlowOfABeastIsHeard();
        aThrownBladeIsHeard();
        aPotionIsHeard();
        whatMakesNoNoise();
        noiseIsBehindWhatIsDone();
        Check.end();
    }

    /** "... is not greater than the loudness": each loudness from 1 to 30 and each distance. */
    private static void loudnessIsALength() {
        int[] way = Keeps.winding();
        for (int distance : new int[] {1, 2, 3, 6, 7, 15, 28, 29, 30, 31, 32, 76}) {
            for (int loudness = 1; loudness <= 30; loudness++) {
                DelveKeep keep = Keeps.wound(way);
                keep.addBeast(way[distance] / 100, way[distance] % 100, 1, 0, 30);
                keep.begin(0);
                boolean isHeard = distance <= loudness;
                String label = loudness + " at " + distance;
                Check.is(label, keep.shout(loudness), isHeard ? 1 : 0);
                Check.is(label + ", aim", Keeps.aim(keep, 1), isHeard ? 0 : -1);
            }
        }
    }

    /** Rows from the hero, at the left, to the one beast, at the right, with the cost of each. */
    private static void cost(int due, String... rows) {
        for (int loudness = due - 1; loudness <= due; loudness++) {
            if (loudness >= 1 && loudness <= 30) {
                DelveKeep keep = beastAtTheMark(rows);
                keep.begin(0);
                Check.is(loudness + " over " + rows[0], keep.shout(loudness), loudness == due ? 1 : 0);
            }
        }
    }

    /** A keep from a picture in which B is a beast of speed 1 on a floor. */
    private static DelveKeep beastAtTheMark(String... rows) {
        String[] plain = new String[rows.length];
        for (int y = 0; y < rows.length; y++) {
            plain[y] = rows[y].replace('B', '.');
        }
        DelveKeep keep = Keeps.dug(plain);
        for (int y = 0; y < rows.length; y++) {
            for (int x = 0; x < rows[y].length(); x++) {
                if (rows[y].charAt(x) == 'B') {
                    keep.addBeast(x, y, 1, 0, 30);
                }
            }
        }
        return keep;
    }

    /** "over free cells for 1 each and doors that are closed or locked for 3 each" */
    private static void doorsCountThree() {
        for (char sign : "+012".toCharArray()) {
            cost(4, "@" + sign + "B");
            cost(7, "@" + sign + sign + "B");
            cost(5, "@" + sign + ".B");
            cost(5, "@." + sign + "B");
        }
        for (char sign : ".~/".toCharArray()) {
            cost(2, "@" + sign + "B");
            cost(3, "@" + sign + sign + "B");
        }
        cost(13, "@+012B");
        DelveKeep opened = Keeps.dug("@+.");
        opened.addBeast(2, 0, 1, 0, 1);
        opened.begin(0);
        Check.is("3 at a closed door", opened.shout(3), 0);
        opened.go(1);
        Check.is("1 at the opened door", opened.shout(1), 0);
        Check.is("2 at the opened door", opened.shout(2), 1);
    }

    private static void upToThirtyThroughDoors() {
        cost(30, "@+++++++++..", "###########B");
        cost(30, "@012012012.", "##########.", "##########B");
        DelveKeep over = beastAtTheMark("@+++++++++..", "###########.", "###########B");
        over.begin(0);
        Check.is("31 is never heard", over.shout(30), 0);
        DelveKeep doors = beastAtTheMark("@++++++++++B");
        doors.begin(0);
        Check.is("ten doors are never heard through", doors.shout(30), 0);
    }

    /** "where the cell in which one comes counts": not that in which it begins. */
    private static void theCellInWhichOneComesCounts() {
        cost(1, "@B");
        DelveKeep door = Keeps.dug(".+.");
        door.setHero(0, 0, 12, 30);
        door.addBeast(2, 0, 1, 0, 1);
        door.begin(0);
        door.go(1);
        door.go(1);
        Check.is("from within an open door", door.shout(1), 1);
    }

    private static void theShortestWayCounts() {
        cost(4, "@+B", ".#.", "...");
        cost(5, "@++B", "....");
        cost(8, "@+++B", ".###.", ".....");
        cost(10, "@+++B", ".###.", ".###.", "....+");
        cost(5, "@+..", ".#.#", "...B");
        cost(7, "@++..B", "....##");
        cost(9, "@++....B", "....####");
        cost(9, "@++++..B", ".......#");
        cost(12, "@+++..B", ".###.##", ".###.##", ".....##");
        cost(13, "@+++...B", "####.###", ".+......");
        cost(22, "@...........", "............", "............", "............", "............", "............",
                "............", "............", "............", "............", "............", "...........B");
    }

    /** A cave of doors alone, but for the hero's cell in the middle and those of the beasts. */
    private static void doorsAllOver() {
        for (char sign : "+012".toCharArray()) {
            DelveKeep keep = new DelveKeep();
            for (int spot = 0; spot < 144; spot++) {
                keep.dig(spot / 12, spot % 12, sign);
            }
            keep.dig(5, 5, '.');
            keep.setHero(5, 5, 12, 30);
            int[][] places = {{11, 8}, {11, 2}, {0, 1}, {0, 9}, {5, 11}, {8, 11}, {2, 0}};
            for (int[] place : places) {
                keep.dig(place[0], place[1], '.');
                keep.addBeast(place[0], place[1], 1, 0, 30);
            }
            keep.begin(0);
            int[] due = {16, 22, 23, 25};
            int[] heard = {1, 2, 3, 7};
            for (int i = 0; i < due.length; i++) {
                Check.is(due[i] - 1 + " through doors all over", keep.shout(due[i] - 1), i == 0 ? 0 : heard[i - 1]);
                Check.is(due[i] + " through doors all over", keep.shout(due[i]), heard[i]);
            }
        }
    }

    private static void noWayNoSound() {
        for (String row : new String[] {"@#B", "@.#B", "@+#B"}) {
            DelveKeep keep = beastAtTheMark(row);
            keep.begin(0);
            Check.is("no way over " + row, keep.shout(30), 0);
            Check.is("no aim over " + row, Keeps.aim(keep, 1), -1);
        }
        DelveKeep corner = beastAtTheMark("@#", "#B");
        corner.begin(0);
        Check.is("not round a corner, though it sees", corner.shout(30), 0);
    }

    /** "Returns how many beasts hear it": none to all seven. */
    private static void allSevenHear() {
        for (int beasts = 0; beasts <= 7; beasts++) {
            DelveKeep keep = Keeps.open();
            keep.setHero(7, 4, 12, 30);
            for (int beast = 1; beast <= beasts; beast++) {
                keep.addBeast(beast, 9, 1, 0, 30);
            }
            keep.begin(0);
            for (int beast = 1; beast <= beasts; beast++) {
                Check.is("no aim of " + beast, Keeps.aim(keep, beast), -1);
            }
            Check.is("all of " + beasts, keep.shout(30), beasts);
            for (int beast = 1; beast <= beasts; beast++) {
                Check.is("aim of " + beast, keep.aimOf(beast), 704);
            }
        }
        DelveKeep row = Keeps.dug("@...........");
        for (int beast = 1; beast <= 7; beast++) {
            row.addBeast(beast, 0, 1, 0, 30);
        }
        row.begin(0);
        for (int loudness = 1; loudness <= 9; loudness++) {
            Check.is("those up to " + loudness, row.shout(loudness), Math.min(7, loudness));
        }
    }

    private static void theDeadDoNotHear() {
        DelveKeep keep = Keeps.dug("@...");
        for (int beast = 1; beast <= 3; beast++) {
            keep.addBeast(beast, 0, 1, 0, 3);
        }
        keep.begin(0);
        keep.go(1);
        Check.is("two of three", keep.shout(30), 2);
        Check.is("the dead one has no aim", Keeps.aim(keep, 1), -1);
        keep.go(1);
        keep.go(1);
        Check.is("one of three", keep.shout(30), 1);
        keep.go(1);
        keep.go(1);
        Check.is("none of three", keep.shout(30), 0);
    }

    /** "A blow ... makes a noise of 6 at the cell of who is struck" */
    private static void aBlowIsHeardSixStepsOff() {
        for (int x = 2; x <= 11; x++) {
            DelveKeep keep = Keeps.dug("@...........");
            keep.addBeast(1, 0, 1, 0, 30);
            keep.addBeast(x, 0, 1, 0, 30);
            keep.begin(0);
            keep.go(1);
            Check.is("a blow, the struck one", Keeps.aim(keep, 1), 100);
            Check.is("a blow, heard at " + x, Keeps.aim(keep, 2), x - 1 <= 6 ? 100 : -1);
        }
        for (int doors = 1; doors <= 2; doors++) {
            DelveKeep keep = Keeps.dug("@.+" + (doors == 2 ? "+" : ".") + "...");
            keep.addBeast(1, 0, 1, 0, 30);
            keep.addBeast(5, 0, 1, 0, 30);
            keep.begin(0);
            keep.go(1);
            Check.is("a blow through doors, " + doors, Keeps.aim(keep, 2), doors == 1 ? 100 : -1);
        }
    }

    private static void aBlowOfABeastIsHeard() {
        for (int strength : new int[] {0, 9}) {
            for (int x = 2; x <= 11; x++) {
                DelveKeep keep = Keeps.dug("@...........");
                keep.addBeast(1, 0, 13, strength, 30);
                keep.addBeast(x, 0, 1, 0, 30);
                keep.begin(0);
                Check.is("it has struck", keep.healthOf(0), 30 - strength);
                Check.is("a beast's blow, heard at " + x, Keeps.aim(keep, 2), x <= 6 ? 0 : -1);
            }
        }
        DelveKeep last = Keeps.dug("@...");
        last.setHero(0, 0, 12, 1);
        last.addBeast(1, 0, 13, 1, 30);
        last.addBeast(3, 0, 1, 0, 30);
        last.begin(0);
        Check.is("dead", last.state(), 'd');
        Check.is("the last blow is heard, too", Keeps.aim(last, 2), 0);
    }

    private static void aThrownBladeIsHeard() {
        for (int x = 4; x <= 11; x++) {
            DelveKeep keep = Keeps.dug("@...........");
            keep.addThing(7, 0, 0, -1);
            keep.addBeast(3, 0, 1, 0, 30);
            keep.addBeast(x, 0, 1, 0, 30);
            keep.begin(0);
            keep.take(0);
            Check.is("a blade flies", keep.hurl(0, 1), 3);
            Check.is("a blade, the struck one", Keeps.aim(keep, 1), 300);
            Check.is("a blade, heard at " + x, Keeps.aim(keep, 2), x - 3 <= 6 ? 300 : -1);
        }
    }

    /** "... and a potion that breaks at its cell": of whatever effect, with or without one whom it hits. */
    private static void aPotionIsHeard() {
        for (char effect : "hdsbf".toCharArray()) {
            for (int x = 3; x <= 11; x++) {
                DelveKeep keep = Keeps.dug("@...........");
                keep.setEffect(4, effect, 1, 0);
                keep.addThing(4, 0, 0, -1);
                keep.addBeast(2, 0, 1, 0, 30);
                keep.addBeast(x, 0, 1, 0, 30);
                keep.begin(0);
                keep.take(0);
                Check.is("a potion flies", keep.hurl(0, 1), 2);
                Check.is("a potion " + effect + ", the hit one", Keeps.aim(keep, 1), 200);
                Check.is("a potion " + effect + ", heard at " + x, Keeps.aim(keep, 2), x - 2 <= 6 ? 200 : -1);
            }
        }
        for (int y = 0; y <= 3; y++) {
            DelveKeep keep = Keeps.dug("@..........", "#.........", "#.........", "#.........");
            keep.addThing(4, 0, 0, -1);
            keep.addBeast(9, y, 1, 0, 30);
            keep.begin(0);
            keep.take(0);
            Check.is("a potion flies on", keep.hurl(0, 1), 5);
            Check.is("a potion, heard down by " + y, Keeps.aim(keep, 1), 4 + y <= 6 ? 500 : -1);
        }
        DelveKeep here = Keeps.dug("@.......");
        here.addThing(4, 0, 0, -1);
        here.addBeast(6, 0, 1, 0, 30);
        here.addBeast(7, 0, 1, 0, 30);
        here.begin(0);
        here.take(0);
        Check.is("a potion breaks here", here.hurl(0, 3), 0);
        Check.is("a potion here, heard 6 off", Keeps.aim(here, 1), 0);
        Check.is("a potion here, not heard 7 off", Keeps.aim(here, 2), -1);
    }

    private static void whatMakesNoNoise() {
        DelveKeep keep = Keeps.dug("@.+.");
        int[] kinds = {0, 1, 2, 6, 4, 7};
        for (int kind : kinds) {
            keep.addThing(kind, 0, 0, -1);
        }
        keep.addBeast(3, 0, 1, 0, 30);
        keep.setHero(0, 0, 24, 30);
        keep.begin(0);
        for (int thing = 0; thing < kinds.length; thing++) {
            keep.take(thing);
        }
        keep.pack(0, 3);
        keep.drop(3);
        keep.drink(4);
        keep.hurl(1, 1);
        keep.hurl(5, 1);
        keep.pray();
        keep.go(1);
        keep.go(1);
        keep.go(1);
        Check.is("none of this is heard", Keeps.aim(keep, 1), -1);
        DelveKeep hit = Keeps.dug("@...");
        hit.setKind(6, 1, false);
        hit.addThing(6, 0, 0, -1);
        hit.addThing(7, 0, 0, 0);
        hit.addBeast(2, 0, 1, 0, 30);
        hit.begin(0);
        hit.take(0);
        Check.is("a bag with a blade in it hits a beast", hit.hurl(0, 1), 2);
        Check.is("no blow", hit.healthOf(1), 30);
        Check.is("no noise", Keeps.aim(hit, 1), -1);
    }

    /** "... behind what they do": whom a blow or a potion kills hears it no more. */
    private static void noiseIsBehindWhatIsDone() {
        DelveKeep blow = Keeps.dug("@..");
        blow.addBeast(1, 0, 1, 0, 3);
        blow.addBeast(2, 0, 1, 0, 3);
        blow.begin(0);
        blow.go(1);
        Check.is("killed by a blow", Keeps.aim(blow, 1), -1);
        Check.is("heard by the other", Keeps.aim(blow, 2), 100);
        DelveKeep blade = Keeps.dug("@..");
        blade.addThing(7, 0, 0, -1);
        blade.addBeast(1, 0, 1, 0, 4);
        blade.addBeast(2, 0, 1, 0, 4);
        blade.begin(0);
        blade.take(0);
        blade.hurl(0, 1);
        Check.is("killed by a blade", Keeps.aim(blade, 1), -1);
        Check.is("a blade, heard by the other", Keeps.aim(blade, 2), 100);
        DelveKeep potion = Keeps.dug("@..");
        potion.setEffect(3, 'd', 4, 1);
        potion.addThing(3, 0, 0, -1);
        potion.addBeast(1, 0, 1, 0, 4);
        potion.addBeast(2, 0, 1, 0, 5);
        potion.begin(0);
        potion.take(0);
        potion.hurl(0, 1);
        Check.is("killed by a potion", Keeps.aim(potion, 1), -1);
        Check.is("a potion, heard by the other", Keeps.aim(potion, 2), 100);
    }
}
