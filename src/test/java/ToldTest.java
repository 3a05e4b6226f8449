/** Promises 1 to 8: what is told ahead of a world. */
public final class ToldTest {
    private static final Class<IndexOutOfBoundsException> NO_PLACE = IndexOutOfBoundsException.class;
    private static final Class<IllegalArgumentException> BAD = IllegalArgumentException.class;
    private static final Class<IllegalStateException> NOT_NOW = IllegalStateException.class;
    private static final Class<UnsupportedOperationException> NO_BAG = UnsupportedOperationException.class;

    private ToldTest() {
    }

    public static void main(String[] args) {
        promise1NewObject();
        promise2Dig();
        promise3SetKind();
        promise4SetEffect();
        promise5SetHero();
        promise6AddBeast();
        promise7AddThing();
        promise8AddLamp();
        tellingEndsWhatWasOn();
        Check.end();
    }

    private static void promise1NewObject() {
        DelveKeep keep = new DelveKeep();
        for (int x = 0; x < 12; x++) {
            for (int y = 0; y < 12; y++) {
                Check.is("P1 cell " + x + " " + y, keep.cell(x, y), '#');
            }
        }
        Check.is("P1 state", keep.state(), 'n');
        Check.is("P1 tick", keep.tick(), 0);
        Check.is("P1 creatures", Keeps.creatures(keep), 1);
        Check.is("P1 things", Keeps.things(keep), 0);
        Check.is("P1 hero's place", keep.placeOf(0), 0);
        Check.is("P1 hero's health", keep.healthOf(0), 30);
        Check.is("P1 lamps", keep.addLamp(0, 0, 1), 1);
        Check.is("P1 two objects are apart", new DelveKeep().addLamp(0, 0, 1), 1);
    }

    private static void promise2Dig() {
        DelveKeep keep = new DelveKeep();
        char before = '#';
        for (char sign : ".~+/012#.".toCharArray()) {
            Check.is("P2 dig " + sign, keep.dig(11, 0, sign), before);
            Check.is("P2 cell " + sign, keep.cell(11, 0), sign);
            before = sign;
        }
        Check.is("P2 other cell", keep.cell(0, 11), '#');
        Check.is("P2 dig last", keep.dig(11, 11, '2'), '#');
        Check.refused("P2 x -1", keep, NO_PLACE, () -> keep.dig(-1, 0, '.'));
        Check.refused("P2 x 12", keep, NO_PLACE, () -> keep.dig(12, 0, '.'));
        Check.refused("P2 y -1", keep, NO_PLACE, () -> keep.dig(0, -1, '.'));
        Check.refused("P2 y 12", keep, NO_PLACE, () -> keep.dig(0, 12, '.'));
        Check.refused("P2 place first", keep, NO_PLACE, () -> keep.dig(Integer.MIN_VALUE, 0, 'x'));
        for (char sign : "3x @-*\u0000\uffff".toCharArray()) {
            Check.refused("P2 sign " + (int) sign, keep, BAD, () -> keep.dig(0, 0, sign));
        }
        DelveKeep on = Keeps.dug("@");
        on.begin(0);
        Check.refused("P2 on", on, NOT_NOW, () -> on.dig(0, 1, '.'));
        Check.refused("P2 on, sign first", on, BAD, () -> on.dig(0, 1, 'x'));
        Check.refused("P2 on, place first", on, NO_PLACE, () -> on.dig(0, 12, '.'));
    }

    private static void promise3SetKind() {
        DelveKeep keep = Keeps.dug("@");
        for (int kind = 0; kind < 8; kind++) {
            Check.is("P3 at first " + kind, keep.setKind(kind, kind + 2, false), 1);
        }
        Check.is("P3 before", keep.setKind(7, 0, true), 9);
        Check.is("P3 before again", keep.setKind(7, 9, false), 0);
        keep.addThing(5, 0, 0, -1);
        Check.is("P3 weight holds", keep.weightOf(0), 7);
        Check.refused("P3 kind -1", keep, BAD, () -> keep.setKind(-1, 1, true));
        Check.refused("P3 kind 8", keep, BAD, () -> keep.setKind(8, 1, true));
        Check.refused("P3 weight -1", keep, BAD, () -> keep.setKind(5, -1, true));
        Check.refused("P3 weight 10", keep, BAD, () -> keep.setKind(5, 10, true));
        keep.begin(0);
        Check.refused("P3 on", keep, NOT_NOW, () -> keep.setKind(5, 1, true));
        Check.refused("P3 on, numbers first", keep, BAD, () -> keep.setKind(5, 10, true));
        promise3WoodTold(true);
        promise3WoodTold(false);
    }

    private static void promise3WoodTold(boolean isWooden) {
        DelveKeep keep = Keeps.dug("@");
        keep.setKind(2, 1, !isWooden);
        keep.setKind(2, 1, isWooden);
        keep.setEffect(3, 'f', 1, 0);
        keep.addThing(2, 0, 0, -1);
        keep.addThing(1, 0, 0, -1);
        keep.addThing(3, 0, 0, -1);
        keep.begin(0);
        keep.take(2);
        keep.drink(2);
        Check.is("P3 wood " + isWooden, keep.whereIs(0), isWooden ? -2 : 0);
        Check.is("P3 not of wood at first", keep.whereIs(1), 0);
    }

    private static void promise4SetEffect() {
        DelveKeep keep = Keeps.dug("@");
        Check.is("P4 at first 3", keep.setEffect(3, 'f', 1, 0), 'h');
        Check.is("P4 at first 4", keep.setEffect(4, 'd', 20, 3), 'h');
        Check.is("P4 at first 5", keep.setEffect(5, 's', 20, 3), 'h');
        Check.is("P4 f before", keep.setEffect(3, 'b', 1, 0), 'f');
        Check.is("P4 d before", keep.setEffect(4, 'b', 1, 0), 'd');
        Check.is("P4 s before", keep.setEffect(5, 'b', 1, 0), 's');
        Check.is("P4 b before", keep.setEffect(5, 'h', 1, 0), 'b');
        Check.refused("P4 kind 2", keep, BAD, () -> keep.setEffect(2, 'h', 1, 0));
        Check.refused("P4 kind 6", keep, BAD, () -> keep.setEffect(6, 'h', 1, 0));
        Check.refused("P4 effect x", keep, BAD, () -> keep.setEffect(3, 'x', 1, 0));
        Check.refused("P4 effect H", keep, BAD, () -> keep.setEffect(3, 'H', 1, 0));
        Check.refused("P4 n 0", keep, BAD, () -> keep.setEffect(3, 'h', 0, 0));
        Check.refused("P4 n 21", keep, BAD, () -> keep.setEffect(3, 'h', 21, 0));
        Check.refused("P4 radius -1", keep, BAD, () -> keep.setEffect(3, 'h', 1, -1));
        Check.refused("P4 radius 4", keep, BAD, () -> keep.setEffect(3, 'h', 1, 4));
        Check.is("P4 unchanged", keep.setEffect(3, 'd', 7, 0), 'b');
        keep.addThing(3, 0, 0, -1);
        keep.addThing(4, 0, 0, -1);
        keep.setEffect(4, 'h', 3, 0);
        keep.begin(0);
        keep.take(0);
        keep.take(1);
        Check.refused("P4 on", keep, NOT_NOW, () -> keep.setEffect(3, 'h', 1, 0));
        Check.refused("P4 on, numbers first", keep, BAD, () -> keep.setEffect(3, 'h', 0, 0));
        Check.is("P4 d works as told", keep.drink(0), 23);
        Check.is("P4 h works as told", keep.drink(1), 26);
        promise4AtFirstHealsByOne();
    }

    private static void promise4AtFirstHealsByOne() {
        DelveKeep keep = Keeps.dug("@.");
        keep.setEffect(5, 'd', 5, 0);
        keep.addThing(5, 0, 0, -1);
        keep.addThing(3, 0, 0, -1);
        keep.addThing(4, 0, 0, -1);
        keep.begin(0);
        Keeps.rest(keep, 1);
        keep.take(0);
        keep.take(1);
        keep.take(2);
        keep.drink(0);
        Check.is("P4 1 at first", keep.drink(1), 26);
        Check.is("P4 radius 0 at first", keep.hurl(2, 1), 1);
        Check.is("P4 radius 0 at first, hero not healed", keep.healthOf(0), 26);
    }

    private static void promise5SetHero() {
        DelveKeep keep = Keeps.dug("..", "..");
        Check.is("P5 at first", keep.setHero(1, 0, 1, 1), 30);
        Check.is("P5 place", keep.placeOf(0), 100);
        Check.is("P5 health", keep.healthOf(0), 1);
        Check.is("P5 before", keep.setHero(0, 1, 24, 99), 1);
        Check.is("P5 place again", keep.placeOf(0), 1);
        Check.is("P5 health again", keep.healthOf(0), 99);
        Check.is("P5 rock may be told", keep.setHero(11, 11, 24, 98), 99);
        Check.is("P5 rock is its place", keep.placeOf(0), 1111);
        Check.refused("P5 x -1", keep, NO_PLACE, () -> keep.setHero(-1, 0, 12, 30));
        Check.refused("P5 y 12", keep, NO_PLACE, () -> keep.setHero(0, 12, 12, 30));
        Check.refused("P5 place first", keep, NO_PLACE, () -> keep.setHero(12, 0, 0, 0));
        Check.refused("P5 speed 0", keep, BAD, () -> keep.setHero(0, 0, 0, 30));
        Check.refused("P5 speed 25", keep, BAD, () -> keep.setHero(0, 0, 25, 30));
        Check.refused("P5 health 0", keep, BAD, () -> keep.setHero(0, 0, 12, 0));
        Check.refused("P5 health 100", keep, BAD, () -> keep.setHero(0, 0, 12, 100));
        keep.setHero(0, 0, 4, 9);
        Check.is("P5 speed holds", keep.begin(0), 3);
        Check.refused("P5 on", keep, NOT_NOW, () -> keep.setHero(0, 0, 12, 30));
        Check.refused("P5 on, numbers first", keep, BAD, () -> keep.setHero(0, 0, 25, 30));
        Check.refused("P5 on, place first", keep, NO_PLACE, () -> keep.setHero(0, -1, 12, 30));
        DelveKeep fresh = Keeps.dug(".");
        Check.is("P5 speed at first", fresh.begin(0), 1);
        for (int turn = 2; turn < 40; turn++) {
            Check.is("P5 speed at first, turn " + turn, fresh.rest(), turn);
        }
        DelveKeep healed = Keeps.dug(".");
        healed.setEffect(3, 'd', 20, 0);
        healed.setEffect(4, 'h', 20, 0);
        for (int kind : new int[] {3, 4, 4}) {
            healed.addThing(kind, 0, 0, -1);
        }
        healed.begin(0);
        for (int thing = 0; thing < 3; thing++) {
            healed.take(thing);
        }
        Check.is("P5 health at first, harmed", healed.drink(0), 10);
        Check.is("P5 health at first, a third of it", healed.pray(), -1);
        healed.drink(1);
        Check.is("P5 health at first, healed", healed.drink(2), 30);
    }

    private static void promise6AddBeast() {
        DelveKeep keep = Keeps.open();
        Check.is("P6 first", keep.addBeast(11, 0, 1, 0, 1), 1);
        Check.is("P6 second", keep.addBeast(0, 11, 24, 9, 30), 2);
        Check.is("P6 place", keep.placeOf(1), 1100);
        Check.is("P6 place of second", keep.placeOf(2), 11);
        Check.is("P6 health", keep.healthOf(1), 1);
        Check.is("P6 health of second", keep.healthOf(2), 30);
        Check.refused("P6 x 12", keep, NO_PLACE, () -> keep.addBeast(12, 0, 1, 1, 1));
        Check.refused("P6 y -1", keep, NO_PLACE, () -> keep.addBeast(0, -1, 1, 1, 1));
        Check.refused("P6 speed 0", keep, BAD, () -> keep.addBeast(5, 5, 0, 1, 1));
        Check.refused("P6 speed 25", keep, BAD, () -> keep.addBeast(5, 5, 25, 1, 1));
        Check.refused("P6 strength -1", keep, BAD, () -> keep.addBeast(5, 5, 1, -1, 1));
        Check.refused("P6 strength 10", keep, BAD, () -> keep.addBeast(5, 5, 1, 10, 1));
        Check.refused("P6 health 0", keep, BAD, () -> keep.addBeast(5, 5, 1, 1, 0));
        Check.refused("P6 health 31", keep, BAD, () -> keep.addBeast(5, 5, 1, 1, 31));
        Check.refused("P6 place first", keep, NO_PLACE, () -> keep.addBeast(-1, 5, 1, 1, 31));
        for (int beast = 3; beast <= 7; beast++) {
            Check.is("P6 beast " + beast, keep.addBeast(beast, 11, 1, 0, 1), beast);
        }
        Check.refused("P6 eighth", keep, NOT_NOW, () -> keep.addBeast(5, 5, 1, 1, 1));
        Check.refused("P6 eighth, numbers first", keep, BAD, () -> keep.addBeast(5, 5, 1, 1, 31));
        Check.refused("P6 eighth, place first", keep, NO_PLACE, () -> keep.addBeast(5, 12, 1, 1, 1));
        DelveKeep on = Keeps.dug("@");
        on.begin(0);
        Check.refused("P6 on", on, NOT_NOW, () -> on.addBeast(0, 0, 1, 1, 1));
        Check.refused("P6 on, numbers first", on, BAD, () -> on.addBeast(0, 0, 0, 1, 1));
    }

    private static void promise7AddThing() {
        DelveKeep keep = Keeps.dug("@");
        Check.is("P7 bag", keep.addThing(6, 3, 4, -1), 0);
        Check.is("P7 in it", keep.addThing(0, 5, 5, 0), 1);
        Check.is("P7 bag in it", keep.addThing(6, 5, 5, 0), 2);
        Check.is("P7 deeper", keep.addThing(7, 5, 5, 2), 3);
        Check.is("P7 bag lies", keep.whereIs(0), 304);
        Check.is("P7 in the bag", keep.whereIs(1), -3);
        Check.is("P7 in the bag in it", keep.whereIs(3), -5);
        Check.refused("P7 kind -1", keep, BAD, () -> keep.addThing(-1, 0, 0, -1));
        Check.refused("P7 kind 8", keep, BAD, () -> keep.addThing(8, 0, 0, -1));
        Check.refused("P7 kind first", keep, BAD, () -> keep.addThing(8, 12, 0, 9));
        Check.refused("P7 x 12", keep, NO_PLACE, () -> keep.addThing(0, 12, 0, -1));
        Check.refused("P7 y -1", keep, NO_PLACE, () -> keep.addThing(0, 0, -1, -1));
        Check.refused("P7 place besides a bag", keep, NO_PLACE, () -> keep.addThing(0, 12, 0, 0));
        Check.refused("P7 bag -2", keep, NO_PLACE, () -> keep.addThing(0, 0, 0, -2));
        Check.refused("P7 bag 4", keep, NO_PLACE, () -> keep.addThing(0, 0, 0, 4));
        Check.refused("P7 itself", keep, NO_PLACE, () -> keep.addThing(6, 0, 0, 4));
        Check.refused("P7 no bag", keep, NO_BAG, () -> keep.addThing(0, 0, 0, 1));
        Check.refused("P7 blade is no bag", keep, NO_BAG, () -> keep.addThing(0, 0, 0, 3));
        for (int thing = 4; thing < 24; thing++) {
            Check.is("P7 thing " + thing, keep.addThing(thing % 8, 0, 0, -1), thing);
        }
        Check.refused("P7 25th", keep, NOT_NOW, () -> keep.addThing(0, 0, 0, -1));
        Check.refused("P7 25th, bag first", keep, NO_BAG, () -> keep.addThing(0, 0, 0, 1));
        Check.refused("P7 25th, thing first", keep, NO_PLACE, () -> keep.addThing(0, 0, 0, 24));
        Check.refused("P7 25th, kind first", keep, BAD, () -> keep.addThing(9, 0, 0, 1));
        DelveKeep on = Keeps.dug("@");
        on.addThing(0, 0, 0, -1);
        on.begin(0);
        Check.refused("P7 on", on, NOT_NOW, () -> on.addThing(0, 0, 0, -1));
        Check.refused("P7 on, bag first", on, NO_BAG, () -> on.addThing(0, 0, 0, 0));
        Check.refused("P7 on, thing first", on, NO_PLACE, () -> on.addThing(0, 0, 0, 1));
    }

    private static void promise8AddLamp() {
        DelveKeep keep = Keeps.dug("@....");
        Check.is("P8 first", keep.addLamp(4, 0, 0), 1);
        Check.is("P8 second", keep.addLamp(4, 0, 9), 2);
        Check.refused("P8 x -1", keep, NO_PLACE, () -> keep.addLamp(-1, 0, 0));
        Check.refused("P8 y 12", keep, NO_PLACE, () -> keep.addLamp(0, 12, 0));
        Check.refused("P8 place first", keep, NO_PLACE, () -> keep.addLamp(0, 12, 10));
        Check.refused("P8 radius -1", keep, BAD, () -> keep.addLamp(0, 0, -1));
        Check.refused("P8 radius 10", keep, BAD, () -> keep.addLamp(0, 0, 10));
        Check.is("P8 third", keep.addLamp(11, 11, 9), 3);
        Check.is("P8 fourth", keep.addLamp(0, 11, 1), 4);
        Check.refused("P8 fifth", keep, NOT_NOW, () -> keep.addLamp(0, 0, 1));
        Check.refused("P8 fifth, radius first", keep, BAD, () -> keep.addLamp(0, 0, 10));
        Check.refused("P8 fifth, place first", keep, NO_PLACE, () -> keep.addLamp(12, 0, 1));
        DelveKeep on = Keeps.dug("@..");
        on.addLamp(2, 0, 0);
        on.begin(0);
        Check.is("P8 it lights", on.heroSees(2, 0), true);
        Check.refused("P8 on", on, NOT_NOW, () -> on.addLamp(0, 0, 1));
        Check.refused("P8 on, radius first", on, BAD, () -> on.addLamp(0, 0, 10));
    }

    /** Each call that tells brings back what is told, and the state 'n'. */
    private static void tellingEndsWhatWasOn() {
        for (int call = 0; call < 7; call++) {
            DelveKeep keep = Keeps.dug("@+.");
            keep.addThing(7, 0, 0, -1);
            keep.begin(0);
            keep.take(0);
            keep.go(1);
            keep.go(1);
            keep.leave();
            Check.is("left " + call, keep.cell(1, 0), '/');
            Check.is("left, hero's place " + call, keep.placeOf(0), 100);
            Check.refused("refused telling " + call, keep, BAD, () -> keep.setKind(9, 9, true));
            tell(keep, call);
            Check.is("told again " + call, keep.state(), 'n');
            Check.is("tick " + call, keep.tick(), 0);
            Check.is("cell as told " + call, keep.cell(1, 0), '+');
            Check.is("place as told " + call, keep.placeOf(0), 0);
            Check.is("thing as told " + call, keep.whereIs(0), 0);
        }
    }

    private static void tell(DelveKeep keep, int call) {
        switch (call) {
            case 0:
                keep.dig(0, 0, '.');
                break;
            case 1:
                keep.setKind(0, 1, false);
                break;
            case 2:
                keep.setEffect(3, 'h', 1, 0);
                break;
            case 3:
                keep.setHero(0, 0, 12, 30);
                break;
            case 4:
                keep.addBeast(2, 0, 1, 1, 1);
                break;
            case 5:
                keep.addThing(0, 0, 0, -1);
                break;
            default:
                keep.addLamp(0, 0, 0);
                break;
        }
    }
}
