import java.util.ArrayList;
import java.util.Arrays;
import java.util.List;
import java.util.NoSuchElementException;
import java.util.function.Supplier;

/**
 * "A method that throws an exception changes nothing. If several exceptions apply, the one that is
 * documented first is thrown." For each call all its arguments' edges are put together with each other
 * and with each state; what is due is the first exception, in the order of the document, that applies.
 */
public final class RefusalTest {
    private static final Class<? extends RuntimeException> NO_PLACE = IndexOutOfBoundsException.class;
    private static final Class<? extends RuntimeException> BAD = IllegalArgumentException.class;
    private static final Class<? extends RuntimeException> NOT_NOW = IllegalStateException.class;
    private static final Class<? extends RuntimeException> CANNOT = UnsupportedOperationException.class;
    private static final Class<? extends RuntimeException> NOT_THERE = NoSuchElementException.class;
    private static final Class<? extends RuntimeException> NO_NUMBER = ArithmeticException.class;

    private static final int LEAST = Integer.MIN_VALUE;
    private static final int GREATEST = Integer.MAX_VALUE;
    /** These stand for the first number that no thing, and no creature, has in the state at hand. */
    private static final int NO_THING = 1000001;
    private static final int NO_CREATURE = 1000002;

    private RefusalTest() {
    }

    public static void main(String[] args) {
        dig();
        setKind();
        setEffect();
        setHero();
        addBeast();
        addThing();
        addLamp();
        begin();
        leaveRestPray();
        go();
        take();
        drop();
        pack();
        packInto();
        drink();
        hurl();
        shout();
        cellAndSee();
        heroSeesAndIsReachable();
        creatures();
        things();
        isSame();
        shares();
        Check.end();
    }

    // ---- how it is tried

    private interface Call {
        void on(DelveKeep keep, int[] a);
    }

    private interface Rule {
        Class<? extends RuntimeException> thrownBy(int[] a);
    }

    /** The values of an argument, each with the exception that it brings, or null. */
    private static final class Values {
        final List<Integer> numbers = new ArrayList<>();
        final List<Class<? extends RuntimeException>> thrown = new ArrayList<>();

        Values ok(int... these) {
            return bad(null, these);
        }

        Values bad(Class<? extends RuntimeException> exception, int... these) {
            for (int number : these) {
                numbers.add(number);
                thrown.add(exception);
            }
            return this;
        }
    }

    private static final class State {
        String label;
        Supplier<DelveKeep> maker;
        Class<? extends RuntimeException> thrown;
    }

    /** A call with all values of its arguments in all states. */
    private static final class Grid {
        private final String name;
        private final List<Class<? extends RuntimeException>> order = new ArrayList<>();
        private final List<State> states = new ArrayList<>();
        private final List<Values> arguments = new ArrayList<>();
        private Rule rule = a -> null;
        private int taken = 0;

        @SafeVarargs
        Grid(String name, Class<? extends RuntimeException>... order) {
            this.name = name;
            for (Class<? extends RuntimeException> exception : order) {
                this.order.add(exception);
            }
        }

        Grid in(String label, Supplier<DelveKeep> maker, Class<? extends RuntimeException> thrown) {
            State state = new State();
            state.label = label;
            state.maker = maker;
            state.thrown = thrown;
            states.add(state);
            return this;
        }

        Grid with(Values values) {
            arguments.add(values);
            return this;
        }

        Grid by(Rule together) {
            rule = together;
            return this;
        }

        void check(Call call) {
            for (State state : states) {
                DelveKeep keep = state.maker.get();
                tryAll(state, keep, call, new int[arguments.size()], 0, state.thrown);
                Check.is(name + ", " + state.label + ": nothing is changed by what is refused",
                        Probe.of(keep), Probe.of(state.maker.get()));
            }
            Check.is(name + ": something is taken", taken > 0, true);
        }

        private void tryAll(State state, DelveKeep keep, Call call, int[] a, int index,
                Class<? extends RuntimeException> due) {
            if (index == arguments.size()) {
                tryOne(state, keep, call, a, first(due, rule.thrownBy(a)));
                return;
            }
            Values values = arguments.get(index);
            for (int i = 0; i < values.numbers.size(); i++) {
                a[index] = values.numbers.get(i) == NO_THING ? Keeps.things(keep)
                        : values.numbers.get(i) == NO_CREATURE ? Keeps.creatures(keep) : values.numbers.get(i);
                tryAll(state, keep, call, a, index + 1, first(due, values.thrown.get(i)));
            }
        }

        private Class<? extends RuntimeException> first(Class<? extends RuntimeException> one,
                Class<? extends RuntimeException> other) {
            if (one == null || other == null) {
                return one == null ? other : one;
            }
            return order.indexOf(one) <= order.indexOf(other) ? one : other;
        }

        // What is taken is tried on a keep of its own, as it changes something.
        private void tryOne(State state, DelveKeep keep, Call call, int[] a, Class<? extends RuntimeException> due) {
            String got = "nothing";
            try {
                call.on(due == null ? state.maker.get() : keep, a);
            } catch (RuntimeException e) {
                got = e.getClass().getName();
            }
            taken += due == null ? 1 : 0;
            Check.is(name + Arrays.toString(a) + ", " + state.label + " throws", got,
                    due == null ? "nothing" : due.getName());
        }
    }

    private static Values place() {
        return new Values().ok(0, 11).bad(NO_PLACE, -1, 12, LEAST, GREATEST);
    }

    private static Values range(int least, int greatest) {
        return new Values().ok(least, greatest).bad(BAD, least - 1, greatest + 1, LEAST, GREATEST);
    }

    private static Values thing() {
        return new Values().bad(NO_PLACE, -1, NO_THING, LEAST, GREATEST);
    }

    // ---- the states

    /** Things 0, 1, 5, 6, 7, 11, 12, 13 and 14 lie at the hero, 2 to 4, 8 and 9 are in bags, 10 lies far off. */
    private static DelveKeep told() {
        DelveKeep keep = Keeps.dug("@.+.0....", ".~/..1...", "..#..2...", ".........");
        keep.dig(11, 11, '.');
        keep.setHero(0, 0, 10, 40);
        keep.addBeast(0, 3, 5, 1, 20);
        keep.addBeast(11, 11, 12, 1, 20);
        keep.addLamp(8, 0, 4);
        int[] weights = {2, 3, 1, 1, 5, 1, 1, 9};
        for (int kind = 0; kind < 8; kind++) {
            keep.setKind(kind, weights[kind], kind % 2 == 0);
        }
        keep.setEffect(3, 'f', 1, 2);
        keep.setEffect(4, 'd', 16, 0);
        keep.setEffect(5, 'h', 3, 3);
        int[][] rows = {{0, -1}, {6, -1}, {1, 1}, {6, 1}, {4, 3}, {3, -1}, {7, -1}, {6, -1}, {5, 7}, {6, 7}};
        for (int[] row : rows) {
            keep.addThing(row[0], 0, 0, row[1]);
        }
        keep.addThing(4, 5, 3, -1);
        for (int kind : new int[] {7, 5, 5, 4}) {
            keep.addThing(kind, 0, 0, -1);
        }
        return keep;
    }

    /** In the hands are 0, 1, 6 and 12, of 22 in all; 2 and 3 are in 1, 4 in 3; 13 is gone; the rest as told. */
    private static DelveKeep on() {
        DelveKeep keep = told();
        keep.begin(3);
        for (int thing : new int[] {0, 1, 6, 12, 13}) {
            keep.take(thing);
        }
        keep.drink(13);
        return keep;
    }

    private static DelveKeep left() {
        DelveKeep keep = on();
        keep.leave();
        return keep;
    }

    private static DelveKeep dead() {
        DelveKeep keep = told();
        keep.setHero(0, 0, 12, 16);
        keep.begin(2);
        keep.take(0);
        keep.take(14);
        keep.drink(14);
        return keep;
    }

    private static DelveKeep toldAgain() {
        DelveKeep keep = left();
        keep.setKind(7, 9, false);
        return keep;
    }

    private static DelveKeep withBeasts(int beasts) {
        DelveKeep keep = told();
        for (int beast = 3; beast <= beasts; beast++) {
            keep.addBeast(beast, 3, 3, 1, 9);
        }
        return keep;
    }

    private static DelveKeep withThings(int things) {
        DelveKeep keep = told();
        for (int thing = 15; thing < things; thing++) {
            keep.addThing(thing % 8, 0, 0, -1);
        }
        return keep;
    }

    private static DelveKeep withLamps(int lamps) {
        DelveKeep keep = told();
        for (int lamp = 2; lamp <= lamps; lamp++) {
            keep.addLamp(3, lamp, 2);
        }
        return keep;
    }

    private static Grid telling(String name, Class<? extends RuntimeException> first,
            Class<? extends RuntimeException> second, Class<? extends RuntimeException> third) {
        return new Grid(name, first, second, third, NOT_NOW).in("new", DelveKeep::new, null)
                .in("told", RefusalTest::told, null).in("on", RefusalTest::on, NOT_NOW)
                .in("left", RefusalTest::left, null).in("dead", RefusalTest::dead, null)
                .in("told again", RefusalTest::toldAgain, null);
    }

    @SafeVarargs
    private static Grid acting(String name, Class<? extends RuntimeException>... order) {
        return new Grid(name, order).in("new", DelveKeep::new, NOT_NOW).in("told", RefusalTest::told, NOT_NOW)
                .in("on", RefusalTest::on, null).in("left", RefusalTest::left, NOT_NOW)
                .in("dead", RefusalTest::dead, NOT_NOW).in("told again", RefusalTest::toldAgain, NOT_NOW);
    }

    /** As acting, but without the new keep, in which no thing has a number. */
    @SafeVarargs
    private static Grid handling(String name, Class<? extends RuntimeException>... order) {
        Grid grid = acting(name, order);
        grid.states.remove(0);
        return grid;
    }

    private static Grid asking(String name, Class<? extends RuntimeException> only) {
        return new Grid(name, only).in("new", DelveKeep::new, null).in("told", RefusalTest::told, null)
                .in("on", RefusalTest::on, null).in("left", RefusalTest::left, null)
                .in("dead", RefusalTest::dead, null).in("told again", RefusalTest::toldAgain, null);
    }

    // ---- what is told

    private static void dig() {
        Values signs = new Values().ok('#', '.', '~', '+', '/', '0', '1', '2')
                .bad(BAD, '3', 'x', ' ', '-', '@', 0, 0xffff, '.' + 256);
        telling("dig", NO_PLACE, BAD, null).with(place()).with(place()).with(signs)
                .check((keep, a) -> keep.dig(a[0], a[1], (char) a[2]));
    }

    private static void setKind() {
        telling("setKind", BAD, null, null).with(range(0, 7)).with(range(0, 9)).with(new Values().ok(0, 1))
                .check((keep, a) -> keep.setKind(a[0], a[1], a[2] == 1));
    }

    private static void setEffect() {
        Values signs = new Values().ok('h', 'd', 's', 'b', 'f').bad(BAD, 'H', 'g', 'q', ' ', 0, 'h' + 256);
        telling("setEffect", BAD, null, null).with(range(3, 5)).with(signs).with(range(1, 20)).with(range(0, 3))
                .check((keep, a) -> keep.setEffect(a[0], (char) a[1], a[2], a[3]));
    }

    private static void setHero() {
        telling("setHero", NO_PLACE, BAD, null).with(place()).with(place()).with(range(1, 24)).with(range(1, 99))
                .check((keep, a) -> keep.setHero(a[0], a[1], a[2], a[3]));
    }

    private static void addBeast() {
        telling("addBeast", NO_PLACE, BAD, null).in("with 6 beasts", () -> withBeasts(6), null)
                .in("with 7 beasts", () -> withBeasts(7), NOT_NOW)
                .with(place()).with(place()).with(range(1, 24)).with(range(0, 9)).with(range(1, 30))
                .check((keep, a) -> keep.addBeast(a[0], a[1], a[2], a[3], a[4]));
    }

    private static void addThing() {
        Grid none = new Grid("addThing", BAD, NO_PLACE, CANNOT, NOT_NOW).in("new", DelveKeep::new, null);
        none.with(range(0, 7)).with(place()).with(place()).with(new Values().ok(-1).bad(NO_PLACE, -2, 0, 1, 24))
                .check((keep, a) -> keep.addThing(a[0], a[1], a[2], a[3]));
        Grid grid = telling("addThing", BAD, NO_PLACE, CANNOT).in("with 23 things", () -> withThings(23), null)
                .in("with 24 things", () -> withThings(24), NOT_NOW);
        grid.states.remove(0);
        Values bags = new Values().ok(-1, 1, 3, 7, 9).bad(NO_PLACE, -2, -3, NO_THING, LEAST, GREATEST)
                .bad(CANNOT, 0, 2, 4, 6, 14);
        grid.with(range(0, 7)).with(place()).with(place()).with(bags)
                .check((keep, a) -> keep.addThing(a[0], a[1], a[2], a[3]));
    }

    private static void addLamp() {
        telling("addLamp", NO_PLACE, BAD, null).in("with 3 lamps", () -> withLamps(3), null)
                .in("with 4 lamps", () -> withLamps(4), NOT_NOW)
                .with(place()).with(place()).with(range(0, 9))
                .check((keep, a) -> keep.addLamp(a[0], a[1], a[2]));
    }

    private static void begin() {
        Grid grid = new Grid("begin", BAD, NOT_NOW).in("new, the hero in rock", DelveKeep::new, NOT_NOW)
                .in("told", RefusalTest::told, null).in("on", RefusalTest::on, NOT_NOW)
                .in("left", RefusalTest::left, null).in("dead", RefusalTest::dead, null)
                .in("told again", RefusalTest::toldAgain, null)
                .in("with 7 beasts", () -> withBeasts(7), null)
                .in("a beast on the hero", () -> changed(keep -> keep.addBeast(0, 0, 1, 1, 1)), NOT_NOW)
                .in("a beast on the last beast", () -> changed(keep -> keep.addBeast(11, 11, 1, 1, 1)), NOT_NOW)
                .in("a beast on the first beast", () -> changed(keep -> keep.addBeast(0, 3, 1, 1, 1)), NOT_NOW)
                .in("the hero on a beast", () -> changed(keep -> keep.setHero(0, 3, 1, 1)), NOT_NOW);
        for (char sign : "#.~+/012".toCharArray()) {
            Class<? extends RuntimeException> due = ".~/".indexOf(sign) >= 0 ? null : NOT_NOW;
            grid.in("the hero on " + sign, () -> changed(keep -> keep.dig(0, 0, sign)), due);
            grid.in("the first beast on " + sign, () -> changed(keep -> keep.dig(0, 3, sign)), due);
            grid.in("the last beast on " + sign, () -> changed(keep -> keep.dig(11, 11, sign)), due);
        }
        grid.with(new Values().ok(0, 1, GREATEST).bad(BAD, -1, LEAST)).check((keep, a) -> keep.begin(a[0]));
    }

    private interface Change {
        void on(DelveKeep keep);
    }

    private static DelveKeep changed(Change change) {
        DelveKeep keep = told();
        change.on(keep);
        return keep;
    }

    // ---- acts

    private static void leaveRestPray() {
        acting("leave", NOT_NOW).check((keep, a) -> keep.leave());
        acting("rest", NOT_NOW).check((keep, a) -> keep.rest());
        acting("pray", NOT_NOW).check((keep, a) -> keep.pray());
    }

    private static void go() {
        acting("go", BAD, NOT_NOW).with(range(0, 3)).check((keep, a) -> keep.go(a[0]));
    }

    private static void take() {
        Values things = thing().ok(5, 7, 14).bad(NOT_THERE, 0, 1, 2, 3, 4, 6, 8, 9, 10, 12, 13).bad(CANNOT, 11);
        handling("take", NO_PLACE, NOT_NOW, NOT_THERE, CANNOT).with(things).check((keep, a) -> keep.take(a[0]));
    }

    private static void drop() {
        Values things = thing().ok(0, 1, 6, 12).bad(NOT_THERE, 2, 3, 4, 5, 7, 8, 9, 10, 11, 13, 14);
        handling("drop", NO_PLACE, NOT_NOW, NOT_THERE).with(things).check((keep, a) -> keep.drop(a[0]));
    }

    private static void pack() {
        Values things = thing().ok(0, 1, 2, 3, 4, 6, 12).bad(NOT_THERE, 5, 7, 8, 9, 10, 11, 13, 14);
        Values bags = thing().ok(1, 3).bad(CANNOT, 0, 2, 4, 6, 12).bad(NOT_THERE, 5, 7, 8, 9, 10, 11, 13, 14);
        bags.numbers.set(0, -2);
        handling("pack", NO_PLACE, NOT_NOW, NOT_THERE, CANNOT).with(things).with(bags)
                .by(a -> a[0] == a[1] || a[0] == 1 && a[1] == 3 ? CANNOT : null)
                .check((keep, a) -> keep.pack(a[0], a[1]));
    }

    private static void packInto() {
        Values things = thing().ok(0, 1, 2, 3, 4, 6, 12).bad(NOT_THERE, 5, 7, 8, 9, 10, 11, 13, 14);
        handling("pack", NO_PLACE, NOT_NOW, NOT_THERE, CANNOT).with(things).with(new Values().ok(-1))
                .check((keep, a) -> keep.pack(a[0], a[1]));
    }

    private static void drink() {
        Values things = thing().ok(12).bad(NOT_THERE, 2, 3, 4, 5, 7, 8, 9, 10, 11, 13, 14).bad(CANNOT, 0, 1, 6);
        handling("drink", NO_PLACE, NOT_NOW, NOT_THERE, CANNOT).with(things).check((keep, a) -> keep.drink(a[0]));
    }

    private static void hurl() {
        Values things = thing().ok(0, 1, 6, 12).bad(NOT_THERE, 2, 3, 4, 5, 7, 8, 9, 10, 11, 13, 14);
        handling("hurl", NO_PLACE, BAD, NOT_NOW, NOT_THERE).with(things).with(range(0, 3))
                .check((keep, a) -> keep.hurl(a[0], a[1]));
    }

    private static void shout() {
        acting("shout", BAD, NOT_NOW).with(range(1, 30)).check((keep, a) -> keep.shout(a[0]));
    }

    // ---- what is asked

    private static void cellAndSee() {
        asking("cell", NO_PLACE).with(place()).with(place()).check((keep, a) -> keep.cell(a[0], a[1]));
        asking("see", NO_PLACE).with(place()).with(place()).with(place()).with(place())
                .check((keep, a) -> keep.see(a[0], a[1], a[2], a[3]));
    }

    private static void heroSeesAndIsReachable() {
        acting("heroSees", NO_PLACE, NOT_NOW).with(place()).with(place())
                .check((keep, a) -> keep.heroSees(a[0], a[1]));
        acting("isReachable", NO_PLACE, NOT_NOW).with(place()).with(place())
                .check((keep, a) -> keep.isReachable(a[0], a[1]));
    }

    private static void creatures() {
        Values all = new Values().ok(0).bad(NO_PLACE, -1, NO_CREATURE, LEAST, GREATEST);
        asking("placeOf", NO_PLACE).in("with 7 beasts", () -> withBeasts(7), null).with(all)
                .check((keep, a) -> keep.placeOf(a[0]));
        asking("healthOf", NO_PLACE).in("with 7 beasts", () -> withBeasts(7), null).with(all)
                .check((keep, a) -> keep.healthOf(a[0]));
        DelveKeep seven = withBeasts(7);
        Check.is("placeOf the last beast", seven.placeOf(7), 703);
        Check.is("healthOf the last beast", seven.healthOf(7), 9);
        Values beasts = new Values().ok(1).bad(NOT_THERE, 2).bad(NO_PLACE, -1, 0, NO_CREATURE, LEAST, GREATEST);
        new Grid("aimOf", NO_PLACE, NOT_THERE).in("on", RefusalTest::on, null).in("left", RefusalTest::left, null)
                .with(beasts).check((keep, a) -> keep.aimOf(a[0]));
        Values none = new Values().bad(NOT_THERE, 1, 2).bad(NO_PLACE, -1, 0, NO_CREATURE, LEAST, GREATEST);
        Grid told = new Grid("aimOf", NO_PLACE, NOT_THERE).in("told", RefusalTest::told, null)
                .in("told again", RefusalTest::toldAgain, null);
        told.taken = 1;
        told.with(none).check((keep, a) -> keep.aimOf(a[0]));
    }

    private static void things() {
        Values all = new Values().ok(0, 1, 2, 3, 4, 13, 14).bad(NO_PLACE, -1, NO_THING, LEAST, GREATEST);
        Grid places = asking("whereIs", NO_PLACE).in("with 24 things", () -> withThings(24), null);
        Grid weights = asking("weightOf", NO_PLACE).in("with 24 things", () -> withThings(24), null);
        places.states.remove(0);
        weights.states.remove(0);
        places.with(all).check((keep, a) -> keep.whereIs(a[0]));
        weights.with(all).check((keep, a) -> keep.weightOf(a[0]));
        handling("nameOf", NO_PLACE, NOT_NOW).with(all).check((keep, a) -> keep.nameOf(a[0]));
        DelveKeep none = new DelveKeep();
        for (int thing : new int[] {-1, 0, 1, LEAST, GREATEST}) {
            Check.refused("whereIs " + thing + " of none", none, NO_PLACE, () -> none.whereIs(thing));
            Check.refused("weightOf " + thing + " of none", none, NO_PLACE, () -> none.weightOf(thing));
            Check.refused("nameOf " + thing + " of none", none, NO_PLACE, () -> none.nameOf(thing));
            Check.refused("take " + thing + " of none", none, NO_PLACE, () -> none.take(thing));
            Check.refused("drop " + thing + " of none", none, NO_PLACE, () -> none.drop(thing));
            Check.refused("drink " + thing + " of none", none, NO_PLACE, () -> none.drink(thing));
            Check.refused("hurl " + thing + " of none", none, NO_PLACE, () -> none.hurl(thing, 0));
            Check.refused("pack " + thing + " of none", none, NO_PLACE, () -> none.pack(thing, -1));
        }
    }

    private static void isSame() {
        new Grid("isSame", NOT_NOW).in("new", DelveKeep::new, NOT_NOW).in("told", RefusalTest::told, NOT_NOW)
                .in("on", RefusalTest::on, null).in("left", RefusalTest::left, null)
                .in("dead", RefusalTest::dead, null).in("told again", RefusalTest::toldAgain, NOT_NOW)
                .check((keep, a) -> keep.isSame());
    }

    private static void shares() {
        new Grid("livingShare", NO_NUMBER).in("new", DelveKeep::new, NO_NUMBER)
                .in("no beasts, on", RefusalTest::alone, NO_NUMBER).in("told", RefusalTest::told, null)
                .in("none lives", RefusalTest::noneLives, null)
                .check((keep, a) -> keep.livingShare());
        new Grid("meanHealth", NO_NUMBER).in("new", DelveKeep::new, null).in("no beasts, on", RefusalTest::alone, null)
                .in("none lives", RefusalTest::noneLives, NO_NUMBER)
                .in("none lives, no beasts", RefusalTest::diedAlone, NO_NUMBER)
                .check((keep, a) -> keep.meanHealth());
    }

    private static DelveKeep alone() {
        DelveKeep keep = Keeps.dug("@.");
        keep.begin(0);
        return keep;
    }

    private static DelveKeep noneLives() {
        DelveKeep keep = Keeps.dug("@.");
        keep.addBeast(1, 0, 1, 0, 20);
        return killed(keep);
    }

    private static DelveKeep diedAlone() {
        return killed(Keeps.dug("@."));
    }

    private static DelveKeep killed(DelveKeep keep) {
        keep.setHero(0, 0, 12, 20);
        keep.setEffect(3, 'd', 20, 1);
        keep.addThing(3, 0, 0, -1);
        keep.begin(0);
        keep.take(0);
        keep.hurl(0, 3);
        return keep;
    }
}
