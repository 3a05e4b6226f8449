/** The edges of what the document says of cells, sight, lamps and what is asked when. */
public final class CellEdgesTest {
    private static final Class<IllegalArgumentException> BAD = IllegalArgumentException.class;
    private static final Class<IllegalStateException> NOT_NOW = IllegalStateException.class;
    private static final int[][] CORNERS = {{0, 0}, {11, 0}, {0, 11}, {11, 11}};
    private static final String SIGNS = "#.~+/012";

    private CellEdgesTest() {
    }

    public static void main(String[] args) {
        placesGoFrom0To11();
        eachCellIsItsOwn();
        thereAreEightSigns();
        whatIsFree();
        theFourWays();
        eachCellHasItsNeighbours();
        nothingGoesOverAnEdge();
        nothingWorksOverAnEdge();
        toldWhenNoWorldIsOn();
        askedAsOfTheWorldThatWasOnLast();
        tellingAnswersWhatWasTold();
        whatIsRefusedEndsNothing();
        linesAreCutByCells();
        bordersAreLeftOut();
        onlyThirdCellsHide();
        whatStandsThereDoesNotMatter();
        lampsReachTheirRadius();
        lampsAreNoneToFour();
        lampsNeedALine();
        lampsInRock();
        inTheDark();
        Check.end();
    }

    /** "There are cells with x and y from 0 to 11" */
    private static void placesGoFrom0To11() {
        for (int[] at : CORNERS) {
            int x = at[0];
            int y = at[1];
            String label = "corner " + x + " " + y;
            DelveKeep keep = new DelveKeep();
            Check.is(label + " dig", keep.dig(x, y, '~'), '#');
            Check.is(label + " cell", keep.cell(x, y), '~');
            Check.is(label + " setHero", keep.setHero(x, y, 12, 30), 30);
            Check.is(label + " addThing", keep.addThing(0, x, y, -1), 0);
            Check.is(label + " addLamp", keep.addLamp(x, y, 0), 1);
            Check.is(label + " placeOf", keep.placeOf(0), 100 * x + y);
            Check.is(label + " whereIs", keep.whereIs(0), 100 * x + y);
            Check.is(label + " begin", keep.begin(0), 1);
            Check.is(label + " heroSees", keep.heroSees(x, y), true);
            Check.is(label + " isReachable", keep.isReachable(x, y), true);
            Check.is(label + " take", keep.take(0), 1);
            Check.is(label + " drop", keep.drop(0), 0);
            Check.is(label + " dropped", keep.whereIs(0), 100 * x + y);
            DelveKeep open = Keeps.open();
            open.setHero(5, 5, 12, 30);
            Check.is(label + " addBeast", open.addBeast(x, y, 12, 0, 1), 1);
            Check.is(label + " of a beast", open.placeOf(1), 100 * x + y);
            for (int[] other : CORNERS) {
                Check.is(label + " see", open.see(x, y, other[0], other[1]), true);
            }
            open.begin(0);
            open.rest();
            Check.is(label + " a beast leaves it", open.placeOf(1) != 100 * x + y, true);
        }
    }

    private static void eachCellIsItsOwn() {
        DelveKeep keep = new DelveKeep();
        for (int spot = 0; spot < 144; spot++) {
            Check.is("rock at first " + spot, keep.dig(spot / 12, spot % 12, SIGNS.charAt(spot * 5 % 8)), '#');
        }
        for (int spot = 0; spot < 144; spot++) {
            Check.is("its own " + spot, keep.cell(spot / 12, spot % 12), SIGNS.charAt(spot * 5 % 8));
        }
    }

    /** "'#' rock, as all are at first, '.' floor, ..." and no other sign. */
    private static void thereAreEightSigns() {
        DelveKeep keep = new DelveKeep();
        int wrong = 0;
        for (int sign = 0; sign <= 0xffff; sign++) {
            char before = keep.cell(3, 4);
            boolean isTaken = SIGNS.indexOf((char) sign) >= 0;
            char due = isTaken ? (char) sign : before;
            try {
                keep.dig(3, 4, (char) sign);
                wrong += isTaken ? 0 : 1;
            } catch (IllegalArgumentException e) {
                wrong += isTaken ? 1 : 0;
            }
            wrong += keep.cell(3, 4) == due ? 0 : 1;
        }
        Check.is("signs that are wrongly taken or refused", wrong, 0);
    }

    /** "A cell is free if it is '.', '~' or '/'." */
    private static void whatIsFree() {
        for (char sign : SIGNS.toCharArray()) {
            boolean isFree = ".~/".indexOf(sign) >= 0;
            DelveKeep keep = Keeps.dug("@" + sign + ".");
            keep.addThing(7, 0, 0, -1);
            keep.addBeast(2, 0, 1, 0, 30);
            Check.is("seen over " + sign, keep.see(0, 0, 2, 0), isFree);
            keep.begin(0);
            keep.take(0);
            Check.is("thrown at " + sign, keep.hurl(0, 1), isFree ? 2 : 0);
            Check.is("gone to " + sign, keep.go(1), isFree ? 'm' : sign == '+' ? 'o' : 'b');
            Check.is("place behind " + sign, keep.placeOf(0), isFree ? 100 : 0);
            DelveKeep stand = Keeps.dug("@.." + sign);
            stand.addBeast(3, 0, 12, 0, 1);
            if (isFree) {
                Check.is("begun on " + sign, stand.begin(0), 1);
                stand.rest();
                Check.is("a beast left " + sign, stand.placeOf(1), 200);
            } else {
                Check.refused("begun on " + sign, stand, NOT_NOW, () -> stand.begin(0));
            }
        }
    }

    /** "The ways are 0 to less y, 1 to greater x, 2 to greater y, 3 to less x." */
    private static void theFourWays() {
        int[] due = {504, 605, 506, 405};
        for (int way = 0; way < 4; way++) {
            DelveKeep keep = Keeps.open();
            keep.setHero(5, 5, 12, 30);
            keep.begin(0);
            Check.is("way " + way, keep.go(way), 'm');
            Check.is("way " + way + " leads to", keep.placeOf(0), due[way]);
        }
    }

    /** Each of the four ways from each of the 144 cells. */
    private static void eachCellHasItsNeighbours() {
        DelveKeep keep = Keeps.open();
        int[] dx = {0, 1, 0, -1};
        int[] dy = {-1, 0, 1, 0};
        for (int spot = 0; spot < 576; spot++) {
            int x = spot / 48;
            int y = spot / 4 % 12;
            int nextX = x + dx[spot % 4];
            int nextY = y + dy[spot % 4];
            boolean isThere = nextX >= 0 && nextX <= 11 && nextY >= 0 && nextY <= 11;
            keep.setHero(x, y, 12, 30);
            keep.begin(0);
            String label = "from " + x + " " + y + " by " + spot % 4;
            Check.is(label, keep.go(spot % 4), isThere ? 'm' : 'b');
            Check.is(label + ", place", keep.placeOf(0), isThere ? 100 * nextX + nextY : 100 * x + y);
            keep.leave();
        }
    }

    /** The last cell of one column and the first one of the next are no neighbours. */
    private static void nothingGoesOverAnEdge() {
        for (int x = 0; x < 11; x++) {
            DelveKeep down = apart(x, 11, x + 1, 0);
            Check.is("over the edge, go 2 at " + x, down.go(2), 'b');
            Check.is("over the edge, hurl 2 at " + x, down.hurl(0, 2), 0);
            Check.is("over the edge, shout at " + x, down.shout(30), 0);
            Check.is("over the edge, isReachable at " + x, down.isReachable(x + 1, 0), false);
            DelveKeep up = apart(x + 1, 0, x, 11);
            Check.is("over the edge, go 0 at " + x, up.go(0), 'b');
            Check.is("over the edge, hurl 0 at " + x, up.hurl(0, 0), 0);
            Check.is("over the edge, shout up at " + x, up.shout(30), 0);
            Check.is("over the edge, isReachable up at " + x, up.isReachable(x, 11), false);
        }
        int[][] ends = {{5, 0, 0, 1}, {11, 5, -1, 0}, {5, 11, 0, -1}, {0, 5, 1, 0}};
        for (int way = 0; way < 4; way++) {
            for (int off = 0; off <= 6; off++) {
                int[] end = ends[way];
                towardsAnEdge(end[0] + off * end[2], end[1] + off * end[3], way, off);
            }
        }
    }

    private static void towardsAnEdge(int x, int y, int way, int off) {
        DelveKeep keep = Keeps.open();
        keep.setHero(x, y, 12, 30);
        keep.addThing(0, x, y, -1);
        keep.begin(0);
        keep.take(0);
        String label = "way " + way + ", " + off + " off the edge";
        Check.is(label + ", hurl", keep.hurl(0, way), Math.min(5, off));
        for (int step = 0; step < off; step++) {
            Check.is(label + ", step " + step, keep.go(way), 'm');
        }
        int tick = keep.tick();
        int place = keep.placeOf(0);
        Check.is(label + ", at the edge", keep.go(way), 'b');
        Check.is(label + ", no turn", keep.tick(), tick);
        Check.is(label + ", it stays", keep.placeOf(0), place);
    }

    /** Two free cells that are no neighbours, with a hero who carries a key on one, a beast on the other. */
    private static DelveKeep apart(int x, int y, int otherX, int otherY) {
        DelveKeep keep = new DelveKeep();
        keep.dig(x, y, '.');
        keep.dig(otherX, otherY, '.');
        keep.setHero(x, y, 12, 30);
        keep.addBeast(otherX, otherY, 1, 0, 1);
        keep.addThing(0, x, y, -1);
        keep.begin(0);
        keep.take(0);
        return keep;
    }

    /** Radii end at the edges: a potion at the foot of a column does nothing at the head of the next one. */
    private static void nothingWorksOverAnEdge() {
        for (int[] at : CORNERS) {
            DelveKeep keep = Keeps.open();
            keep.setHero(at[0], at[1], 12, 30);
            keep.setEffect(3, 'd', 7, 3);
            keep.addThing(3, at[0], at[1], -1);
            int number = 0;
            for (int[] other : CORNERS) {
                number += other == at ? 0 : keep.addBeast(other[0], other[1], 1, 0, 30) > 0 ? 1 : 0;
            }
            keep.addBeast(Math.abs(at[0] - 1), Math.abs(at[1] - 11), 1, 0, 30);
            keep.addBeast(Math.abs(at[0] - 3), Math.abs(at[1] - 3), 1, 0, 30);
            keep.begin(0);
            keep.take(0);
            Check.is("a potion at a corner", keep.hurl(0, at[1] == 0 ? 0 : 2), 0);
            Check.is("the hero at a corner", keep.healthOf(0), 23);
            for (int beast = 1; beast <= number + 1; beast++) {
                Check.is("a beast over the edge, " + beast, keep.healthOf(beast), 30);
            }
            Check.is("a beast within the radius", keep.healthOf(number + 2), 23);
        }
    }

    /** "... are told ahead of a world; they cannot be told while one is on." */
    private static void toldWhenNoWorldIsOn() {
        for (int state = 0; state < 4; state++) {
            for (int call = 0; call < 7; call++) {
                DelveKeep keep = Keeps.dug("@.");
                keep.setHero(0, 0, 12, 1);
                keep.addThing(3, 0, 0, -1);
                keep.setEffect(3, 'd', 20, 0);
                bring(keep, state);
                int which = call;
                Check.is("state " + state, keep.state(), "nold".charAt(state));
                if (state == 1) {
                    Check.refused("telling " + call + " in a world", keep, NOT_NOW, () -> tell(keep, which));
                } else {
                    tell(keep, call);
                    Check.is("told " + call + " in state " + state, keep.state(), 'n');
                    Check.is("tick behind telling " + call + " in state " + state, keep.tick(), 0);
                    Check.is("place behind telling " + call, keep.whereIs(0), 0);
                    Check.is("then a world can begin", keep.begin(0), 1);
                }
            }
        }
    }

    private static void bring(DelveKeep keep, int state) {
        if (state > 0) {
            keep.begin(0);
        }
        if (state == 2) {
            keep.take(0);
            keep.leave();
        }
        if (state == 3) {
            keep.take(0);
            keep.drink(0);
        }
    }

    private static void tell(DelveKeep keep, int call) {
        switch (call) {
            case 0: keep.dig(5, 5, '.'); break;
            case 1: keep.setKind(0, 1, false); break;
            case 2: keep.setEffect(3, 'd', 20, 0); break;
            case 3: keep.setHero(0, 0, 12, 1); break;
            case 4: keep.addBeast(1, 0, 1, 0, 1); break;
            case 5: keep.addThing(0, 0, 0, -1); break;
            default: keep.addLamp(0, 0, 0); break;
        }
    }

    /** A world in which a cell, places, healths, an aim and weights are other than told. */
    private static DelveKeep played() {
        DelveKeep keep = Keeps.dug("@+..");
        keep.setHero(0, 0, 12, 20);
        keep.setEffect(3, 'd', 5, 0);
        keep.setEffect(4, 'd', 20, 0);
        keep.addBeast(2, 0, 12, 1, 4);
        for (int kind : new int[] {6, 3, 4}) {
            keep.addThing(kind, 0, 0, -1);
        }
        keep.begin(0);
        for (int thing = 0; thing < 3; thing++) {
            keep.take(thing);
        }
        keep.pack(2, 0);
        keep.drink(1);
        keep.go(1);
        keep.go(1);
        keep.pack(2, -1);
        return keep;
    }

    /** "What is asked is as in the world that is on, or that was on last; ..." */
    private static void askedAsOfTheWorldThatWasOnLast() {
        DelveKeep on = played();
        playedHolds(on, "on", 'o');
        int tick = on.tick();
        Check.is("leave", on.leave(), tick);
        playedHolds(on, "left", 'l');
        Check.is("tick, left", on.tick(), tick);
        on.setKind(0, 1, false);
        toldHolds(on, "told behind leaving");
        DelveKeep dead = played();
        dead.drink(2);
        Check.is("state, dead", dead.state(), 'd');
        Check.is("cell, dead", dead.cell(1, 0), '/');
        Check.is("sight, dead", dead.see(0, 0, 2, 0), true);
        Check.is("health, dead", dead.healthOf(0) <= 0, true);
        Check.is("things, dead", dead.whereIs(0), dead.placeOf(0));
        Check.is("what is gone, dead", dead.whereIs(2), -2);
        Check.is("aim, dead", Keeps.aim(dead, 1) >= 0, true);
        dead.setKind(0, 1, false);
        toldHolds(dead, "told behind a death");
    }

    private static void playedHolds(DelveKeep keep, String when, char state) {
        Check.is("state, " + when, keep.state(), state);
        Check.is("cell, " + when, keep.cell(1, 0), '/');
        Check.is("sight, " + when, keep.see(0, 0, 2, 0), true);
        Check.is("aim, " + when, Keeps.aim(keep, 1), keep.placeOf(0));
        Check.is("in the hands, " + when, keep.whereIs(2), -1);
        Check.is("gone, " + when, keep.whereIs(1), -2);
        Check.is("weight, " + when, keep.weightOf(0), 1);
        Check.is("health, " + when, keep.healthOf(0) < 20, true);
        Check.is("mean, " + when, keep.meanHealth(), (keep.healthOf(0) + keep.healthOf(1)) / 2.0);
    }

    private static void toldHolds(DelveKeep keep, String when) {
        Check.is("state, " + when, keep.state(), 'n');
        Check.is("tick, " + when, keep.tick(), 0);
        Check.is("cell, " + when, keep.cell(1, 0), '+');
        Check.is("sight, " + when, keep.see(0, 0, 2, 0), false);
        Check.is("hero, " + when, keep.placeOf(0), 0);
        Check.is("hero's health, " + when, keep.healthOf(0), 20);
        Check.is("beast, " + when, keep.placeOf(1), 200);
        Check.is("beast's health, " + when, keep.healthOf(1), 4);
        Check.is("aim, " + when, Keeps.aim(keep, 1), -1);
        Check.is("thing, " + when, keep.whereIs(2), 0);
        Check.is("weight, " + when, keep.weightOf(0), 1);
        Check.is("share, " + when, keep.livingShare(), 1f);
        Check.is("mean, " + when, keep.meanHealth(), 12.0);
    }

    /** What a telling answers is what was told before, not what became of it in a world. */
    private static void tellingAnswersWhatWasTold() {
        for (int end = 0; end < 2; end++) {
            Check.is("dig", ended(end).dig(1, 0, '.'), '+');
            Check.is("setHero", ended(end).setHero(0, 0, 12, 7), 20);
            Check.is("setKind", ended(end).setKind(6, 0, false), 1);
            Check.is("setEffect", ended(end).setEffect(4, 'h', 1, 0), 'd');
            Check.is("addBeast", ended(end).addBeast(3, 0, 1, 1, 1), 2);
            Check.is("addThing into a bag", ended(end).addThing(7, 0, 0, 0), 3);
            Check.is("addLamp", ended(end).addLamp(0, 0, 0), 1);
        }
    }

    private static DelveKeep ended(int end) {
        DelveKeep keep = played();
        if (end == 0) {
            keep.leave();
        } else {
            keep.drink(2);
        }
        return keep;
    }

    private static void whatIsRefusedEndsNothing() {
        DelveKeep keep = played();
        keep.leave();
        Check.refused("dig", keep, BAD, () -> keep.dig(0, 0, 'x'));
        Check.refused("setKind", keep, BAD, () -> keep.setKind(8, 0, true));
        Check.refused("setEffect", keep, BAD, () -> keep.setEffect(3, 'h', 21, 0));
        Check.refused("setHero", keep, BAD, () -> keep.setHero(0, 0, 12, 100));
        Check.refused("addBeast", keep, BAD, () -> keep.addBeast(0, 0, 12, 10, 1));
        Check.refused("addThing", keep, UnsupportedOperationException.class, () -> keep.addThing(0, 0, 0, 1));
        Check.refused("addLamp", keep, BAD, () -> keep.addLamp(0, 0, 10));
        Check.refused("begin", keep, BAD, () -> keep.begin(-1));
        playedHolds(keep, "refused", 'l');
    }

    // ---- sight

    /** "... no third cell that is not free has a point of the straight line between their middles in it" */
    private static void linesAreCutByCells() {
        line("A");
        line("AB");
        line("A.", ".B");
        line("AxB");
        line("Ax.", ".xB");
        line("A..", ".x.", "..B");
        line("Ax..", "..xB");
        line("Ax..", ".xx.", "..xB");
        line("Ax...", ".xxx.", "...xB");
        line("Axx..", "..xxB");
        line("Ax....", ".xxxx.", "....xB");
        line("AxxxxxxxxxxB");
        line("Axxxxx......", "......xxxxxB");
        line("Axx........", "...xxxxx...", "........xxB");
        String[] slant = new String[12];
        for (int y = 0; y < 12; y++) {
            slant[y] = "...........".substring(0, y) + (y == 0 ? "A" : y == 11 ? "B" : "x");
        }
        line(slant);
    }

    /** A picture of a line from A to B with x in the cells that it cuts, looked at from all eight sides. */
    private static void line(String... rows) {
        boolean[][] cut = new boolean[12][12];
        int[] ends = {0, 0, 0, 0};
        for (int y = 0; y < rows.length; y++) {
            for (int x = 0; x < rows[y].length(); x++) {
                cut[x][y] = rows[y].charAt(x) == 'x';
                if (rows[y].charAt(x) == 'B') {
                    ends[2] = x;
                    ends[3] = y;
                }
            }
        }
        for (int side = 0; side < 8; side++) {
            sideOf(side, rows[0] + ".." + rows.length, cut, ends);
        }
    }

    private static void sideOf(int side, String label, boolean[][] cut, int[] ends) {
        DelveKeep keep = Keeps.open();
        int[] one = turned(side, ends[0], ends[1]);
        int[] other = turned(side, ends[2], ends[3]);
        for (int x = 0; x < 12; x++) {
            for (int y = 0; y < 12; y++) {
                int[] third = turned(side, x, y);
                keep.dig(third[0], third[1], "#+012".charAt((x + y) % 5));
                String what = "line " + label + " side " + side + " by " + x + " " + y;
                Check.is(what, keep.see(one[0], one[1], other[0], other[1]), !cut[x][y]);
                Check.is(what + " back", keep.see(other[0], other[1], one[0], one[1]), !cut[x][y]);
                keep.dig(third[0], third[1], ".~/".charAt((x + y) % 3));
            }
        }
    }

    private static int[] turned(int side, int x, int y) {
        int a = (side & 1) == 0 ? x : 11 - x;
        int b = (side & 2) == 0 ? y : 11 - y;
        return (side & 4) == 0 ? new int[] {a, b} : new int[] {b, a};
    }

    /** "... its border left out" */
    private static void bordersAreLeftOut() {
        DelveKeep corner = Keeps.dug(".#", "#.");
        Check.is("between two corners", corner.see(0, 0, 1, 1), true);
        Check.is("between two corners, from rock", corner.see(1, 0, 0, 1), true);
        DelveKeep touched = Keeps.dug("..#.", ".#..");
        Check.is("touching two corners at one point", touched.see(0, 0, 3, 1), true);
        DelveKeep lane = Keeps.dug("############", "............", "############");
        Check.is("along a lane", lane.see(0, 1, 11, 1), true);
        Check.is("from rock to rock over a lane", lane.see(0, 0, 2, 2), true);
        Check.is("from rock to rock, flatter", lane.see(0, 0, 4, 2), false);
    }

    private static void onlyThirdCellsHide() {
        DelveKeep rock = new DelveKeep();
        for (int x = 0; x < 12; x++) {
            for (int y = 0; y < 12; y++) {
                boolean isBeside = Math.abs(x - 5) <= 1 && Math.abs(y - 5) <= 1;
                Check.is("in rock " + x + " " + y, rock.see(5, 5, x, y), isBeside);
                Check.is("in rock, back " + x + " " + y, rock.see(x, y, 5, 5), isBeside);
            }
        }
    }

    /** "What stands on a cell does not matter." */
    private static void whatStandsThereDoesNotMatter() {
        DelveKeep keep = Keeps.dug("..@...");
        keep.addBeast(3, 0, 1, 0, 30);
        keep.addBeast(4, 0, 1, 0, 30);
        keep.addThing(6, 1, 0, -1);
        keep.addLamp(5, 0, 9);
        Check.is("over hero, beasts and things, told", keep.see(0, 0, 5, 0), true);
        keep.begin(0);
        Check.is("over hero, beasts and things", keep.see(5, 0, 0, 0), true);
        Check.is("the hero sees over beasts", keep.heroSees(5, 0), true);
        Check.is("a lamp lights over them", keep.heroSees(0, 0), true);
    }

    // ---- lamps

    /** "... so that the sum of the squares of both distances is not greater than that of the radius" */
    private static void lampsReachTheirRadius() {
        for (int radius = 0; radius <= 9; radius++) {
            for (int[] at : new int[][] {{0, 0}, {11, 11}, {5, 6}}) {
                DelveKeep keep = Keeps.open();
                keep.setHero(11, 0, 12, 30);
                keep.addLamp(at[0], at[1], radius);
                keep.begin(0);
                for (int x = 0; x < 12; x++) {
                    for (int y = 0; y < 12; y++) {
                        int off = (x - at[0]) * (x - at[0]) + (y - at[1]) * (y - at[1]);
                        boolean isDue = off <= radius * radius || x >= 10 && y <= 1;
                        Check.is("lamp " + radius + " lights " + off, keep.heroSees(x, y), isDue);
                    }
                }
            }
        }
    }

    private static void lampsAreNoneToFour() {
        DelveKeep keep = Keeps.open();
        keep.setHero(5, 5, 12, 30);
        for (int lamps = 0; lamps <= 4; lamps++) {
            keep.begin(0);
            for (int lamp = 0; lamp < 4; lamp++) {
                boolean isDue = lamp < lamps;
                Check.is(lamps + " lamps, at " + lamp, keep.heroSees(CORNERS[lamp][0], CORNERS[lamp][1]), isDue);
            }
            keep.leave();
            if (lamps < 4) {
                Check.is("lamp", keep.addLamp(CORNERS[lamps][0], CORNERS[lamps][1], 0), lamps + 1);
            }
        }
        Check.refused("a fifth lamp", keep, NOT_NOW, () -> keep.addLamp(0, 0, 0));
    }

    /** "it lights the cells that it and they see each other with", whether or not the hero sees the lamp */
    private static void lampsNeedALine() {
        for (char sign : SIGNS.toCharArray()) {
            DelveKeep keep = Keeps.dug("@....", ".###.", "...." + sign, ".....");
            keep.addLamp(4, 3, 9);
            keep.begin(0);
            boolean isFree = ".~/".indexOf(sign) >= 0;
            Check.is("the hero sees no lamp", keep.see(0, 0, 4, 3), false);
            Check.is("a lamp behind " + sign, keep.heroSees(4, 0), isFree);
            Check.is("a lamp beside " + sign, keep.heroSees(0, 3), true);
        }
    }

    private static void lampsInRock() {
        DelveKeep keep = Keeps.dug("@...", "..#.", "....");
        keep.addLamp(2, 1, 1);
        keep.begin(0);
        Check.is("a lamp in rock lights above", keep.heroSees(2, 0), true);
        Check.is("a lamp in rock lights below", keep.see(2, 1, 2, 2), true);
        Check.is("a lamp in rock lights its own cell", keep.heroSees(2, 1), true);
        Check.is("not further", keep.heroSees(3, 0), false);
        DelveKeep lit = Keeps.dug("@.#.");
        lit.addLamp(3, 0, 9);
        lit.begin(0);
        Check.is("the far side of rock is lit, and seen", lit.heroSees(2, 0), true);
        Check.is("not what is behind it", lit.heroSees(3, 0), false);
    }

    /** "... or neither distance is greater than 1; but while the hero is blind, only its own cell" */
    private static void inTheDark() {
        DelveKeep keep = Keeps.open();
        keep.setHero(5, 5, 12, 30);
        keep.setEffect(3, 'b', 20, 0);
        keep.addThing(3, 5, 5, -1);
        keep.begin(0);
        seesAround(keep, 1, "dark");
        keep.take(0);
        keep.drink(0);
        seesAround(keep, 0, "blind");
        DelveKeep lit = Keeps.open();
        lit.setHero(5, 5, 12, 30);
        lit.setEffect(3, 'b', 20, 0);
        lit.addThing(3, 5, 5, -1);
        for (int[] corner : CORNERS) {
            lit.addLamp(corner[0], corner[1], 9);
        }
        lit.begin(0);
        seesAround(lit, 11, "lit");
        lit.take(0);
        lit.drink(0);
        seesAround(lit, 0, "lit, but blind");
        DelveKeep walls = Keeps.dug("###", "#@#", "###");
        walls.begin(0);
        for (int x = 0; x < 4; x++) {
            for (int y = 0; y < 4; y++) {
                Check.is("walls " + x + " " + y, walls.heroSees(x, y), x < 3 && y < 3);
            }
        }
    }

    private static void seesAround(DelveKeep keep, int distance, String label) {
        for (int x = 0; x < 12; x++) {
            for (int y = 0; y < 12; y++) {
                boolean isDue = Math.abs(x - 5) <= distance && Math.abs(y - 5) <= distance;
                Check.is(label + " " + x + " " + y, keep.heroSees(x, y), isDue);
            }
        }
    }
}
