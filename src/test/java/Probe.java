/**
 * Writes down what a keep answers to a long row of calls, so that also what shows only later can be
 * compared: energies, the temper, the log, what is told behind a world. It uses the keep up.
 */
final class Probe {
    private final DelveKeep keep;
    private final StringBuilder text = new StringBuilder();

    private interface Asked {
        Object ask();
    }

    private Probe(DelveKeep keep) {
        this.keep = keep;
    }

    static String of(DelveKeep keep) {
        Probe probe = new Probe(keep);
        probe.look();
        probe.playOn();
        probe.playAnew();
        probe.tellAgain();
        return probe.text.toString();
    }

    private void note(String what, Asked asked) {
        text.append(what).append(' ');
        try {
            text.append(asked.ask());
        } catch (RuntimeException e) {
            text.append(e.getClass().getName());
        }
        text.append('\n');
    }

    private void look() {
        text.append(Keeps.all(keep));
        note("same", keep::isSame);
        note("share", keep::livingShare);
        note("mean", keep::meanHealth);
    }

    /** What is left of haste and blindness, the energies and the temper show turn by turn. */
    private void playOn() {
        for (int turn = 0; turn < 3; turn++) {
            note("pray", keep::pray);
            note("rest", keep::rest);
            look();
        }
        for (int turn = 0; turn < 20; turn++) {
            note("rest", keep::rest);
        }
        look();
        note("leave", keep::leave);
    }

    /** A world of its own shows weights, wood, effects and lamps as they are told. */
    private void playAnew() {
        note("begin", () -> keep.begin(4));
        look();
        int things = Keeps.things(keep);
        for (int i = 0; i < things; i++) {
            int thing = i;
            note("take " + i, () -> keep.take(thing));
        }
        for (int i = 0; i < things; i++) {
            int thing = i;
            note(i % 2 == 0 ? "drink " + i : "hurl " + i,
                    () -> thing % 2 == 0 ? keep.drink(thing) : keep.hurl(thing, thing / 2 % 4));
        }
        for (int i = 0; i < 4; i++) {
            int way = i;
            note("go " + i, () -> keep.go(way));
        }
        look();
        note("leave", keep::leave);
    }

    private void tellAgain() {
        for (int i = 0; i < 8; i++) {
            int kind = i;
            note("kind " + i, () -> keep.setKind(kind, 2, false));
        }
        for (int i = 3; i <= 5; i++) {
            int kind = i;
            note("effect " + i, () -> keep.setEffect(kind, 'd', 2, 1));
        }
        look();
        note("hero", () -> keep.setHero(0, 0, 12, 50));
        note("lamp", () -> keep.addLamp(0, 0, 3));
        note("beast", () -> keep.addBeast(0, 0, 1, 0, 1));
        note("thing", () -> keep.addThing(6, 0, 0, -1));
        look();
    }
}
