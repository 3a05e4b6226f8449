import java.util.Random;

/** Long runs of calls, drawn by a fixed seed, on the class and on the model; all answers must be alike. */
public final class ModelTest {
    private static final int RUNS = 1500;
    private static final String[] ACTS = {"go", "go", "go", "go", "go", "rest", "rest", "take", "take", "drop", "pack",
        "pack", "drink", "hurl", "hurl", "shout", "pray"};
    private static final String[] ASKS = {"state", "tick", "cell", "see", "heroSees", "placeOf", "healthOf", "aimOf",
        "whereIs", "weightOf", "nameOf", "isReachable", "isSame", "livingShare", "meanHealth"};
    private static final String[] TELLS = {"dig", "setKind", "setEffect", "setHero", "addBeast", "addThing", "addLamp"};

    private final Random random;
    private final DelveKeep keep = new DelveKeep();
    private final Model model = new Model();
    private final StringBuilder story = new StringBuilder();
    private int calls = 0;
    private boolean isAlike = true;

    private ModelTest(long seed) {
        random = new Random(seed);
    }

    public static void main(String[] args) {
        int runs = args.length > 0 ? Integer.parseInt(args[0]) : RUNS;
        int first = args.length > 1 ? Integer.parseInt(args[1]) : 0;
        for (int seed = first; seed < first + runs; seed++) {
            ModelTest test = new ModelTest(seed);
            test.run();
            Check.is("run " + seed, test.isAlike, true);
            if (!test.isAlike) {
                System.out.println(test.story);
                break;
            }
        }
        for (int seed = 0; seed < 6; seed++) {
            compareSight(new Random(seed));
        }
        Check.end();
    }

    /** All pairs of cells in a cave with some rock and doors. */
    private static void compareSight(Random random) {
        DelveKeep keep = new DelveKeep();
        Model model = new Model();
        String signs = "...........................#+0~/";
        for (int spot = 0; spot < 144; spot++) {
            char sign = signs.charAt(random.nextInt(signs.length()));
            keep.dig(spot / 12, spot % 12, sign);
            model.dig(spot / 12, spot % 12, sign);
        }
        int wrong = 0;
        for (int one = 0; one < 144; one++) {
            for (int other = 0; other < 144; other++) {
                boolean got = keep.see(one / 12, one % 12, other / 12, other % 12);
                wrong += got == model.see(one / 12, one % 12, other / 12, other % 12) ? 0 : 1;
            }
        }
        Check.is("pairs of cells that are seen otherwise", wrong, 0);
    }

    private void run() {
        tellCave();
        while (calls < 512 && isAlike) {
            int dice = random.nextInt(100);
            if (keep.state() != 'o') {
                step(dice < 60 ? "begin" : dice < 80 ? pick(TELLS) : dice < 90 ? pick(ASKS) : pick(ACTS));
            } else {
                step(dice < 78 ? pick(ACTS) : dice < 97 ? pick(ASKS) : dice < 98 ? pick(TELLS)
                        : dice < 99 ? "leave" : "begin");
            }
            compareAll();
        }
    }

    /** A cave that is told so that a world can begin in it more often than not. */
    private void tellCave() {
        int size = 3 + random.nextInt(10);
        int rock = random.nextInt(45);
        for (int x = 0; x < size; x++) {
            for (int y = 0; y < Math.min(size, 2 + random.nextInt(12)); y++) {
                if (random.nextInt(100) >= rock) {
                    String signs = "...................~/++012";
                    call("dig", x, y, signs.charAt(random.nextInt(signs.length())));
                }
            }
        }
        for (int kind = 0; kind < 8; kind++) {
            call("setKind", kind, random.nextInt(random.nextBoolean() ? 10 : 3), random.nextInt(2));
        }
        for (int kind = 3; kind <= 5; kind++) {
            call("setEffect", kind, "hdsbf".charAt(random.nextInt(5)), 1 + random.nextInt(20), random.nextInt(4));
        }
        int[] spot = freeSpot(size);
        call("setHero", spot[0], spot[1], 1 + random.nextInt(24), 1 + random.nextInt(99));
        for (int beasts = random.nextInt(8); beasts > 0; beasts--) {
            int[] place = freeSpot(size);
            call("addBeast", place[0], place[1], 1 + random.nextInt(24), random.nextInt(random.nextBoolean() ? 10 : 2),
                    1 + random.nextInt(30));
        }
        for (int things = random.nextInt(25); things > 0; things--) {
            int[] place = random.nextInt(3) > 0 ? spot : freeSpot(size);
            boolean isInBag = random.nextInt(3) == 0;
            call("addThing", random.nextInt(8), place[0], place[1], isInBag ? random.nextInt(24) : -1);
        }
        for (int lamps = random.nextInt(5); lamps > 0; lamps--) {
            call("addLamp", random.nextInt(size), random.nextInt(size), random.nextInt(10));
        }
        compareAll();
    }

    private int[] freeSpot(int size) {
        for (int i = 0; i < 200; i++) {
            int x = random.nextInt(size);
            int y = random.nextInt(size);
            if (".~/".indexOf(keep.cell(x, y)) >= 0 && !isTaken(100 * x + y)) {
                return new int[] {x, y};
            }
        }
        return new int[] {random.nextInt(12), random.nextInt(12)};
    }

    private boolean isTaken(int place) {
        for (int i = 0; i < model.creatures(); i++) {
            if (keep.placeOf(i) == place) {
                return true;
            }
        }
        return false;
    }

    private String pick(String[] names) {
        return names[random.nextInt(names.length)];
    }

    private int number(int low, int high) {
        int dice = random.nextInt(40);
        return dice == 0 ? low - 1 : dice == 1 ? high + 1 : dice == 2 ? random.nextInt() : low + random.nextInt(high - low + 1);
    }

    private int thing() {
        int count = Math.max(1, model.things());
        for (int i = 0; i < 6; i++) {
            int thing = random.nextInt(count);
            boolean isNear = thing < model.things()
                    && (keep.whereIs(thing) == -1 || keep.whereIs(thing) == keep.placeOf(0));
            if (isNear) {
                return thing;
            }
        }
        return number(0, count - 1);
    }

    private void step(String name) {
        switch (name) {
            case "dig":
                call(name, number(0, 11), number(0, 11), random.nextInt(9) == 0 ? 'x' : "#.~+/012".charAt(random.nextInt(8)));
                break;
            case "setKind":
                call(name, number(0, 7), number(0, 9), random.nextInt(2));
                break;
            case "setEffect":
                call(name, number(3, 5), random.nextInt(9) == 0 ? 'x' : "hdsbf".charAt(random.nextInt(5)),
                        number(1, 20), number(0, 3));
                break;
            case "setHero":
                int[] spot = freeSpot(12);
                call(name, spot[0], spot[1], number(1, 24), number(1, 99));
                break;
            case "addBeast":
                int[] place = freeSpot(12);
                call(name, place[0], place[1], number(1, 24), number(0, 9), number(1, 30));
                break;
            case "addThing":
                call(name, number(0, 7), number(0, 11), number(0, 11), random.nextBoolean() ? -1 : number(0, 23));
                break;
            case "addLamp":
                call(name, number(0, 11), number(0, 11), number(0, 9));
                break;
            case "begin":
                call(name, random.nextInt(30) == 0 ? -1 : random.nextInt(100));
                break;
            case "go":
                call(name, number(0, 3));
                break;
            case "take":
            case "drop":
            case "drink":
            case "whereIs":
            case "weightOf":
            case "nameOf":
                call(name, thing());
                break;
            case "pack":
                call(name, thing(), random.nextInt(4) == 0 ? -1 : thing());
                break;
            case "hurl":
                call(name, thing(), number(0, 3));
                break;
            case "shout":
                call(name, number(1, 30));
                break;
            case "cell":
            case "heroSees":
            case "isReachable":
                call(name, number(0, 11), number(0, 11));
                break;
            case "see":
                call(name, number(0, 11), number(0, 11), number(0, 11), number(0, 11));
                break;
            case "placeOf":
            case "healthOf":
            case "aimOf":
                call(name, number(0, model.creatures() - 1));
                break;
            default:
                call(name);
                break;
        }
    }

    private void call(String name, int... a) {
        calls++;
        String got = answer(() -> ofKeep(name, a));
        String due = answer(() -> ofModel(name, a));
        story.append(name);
        for (int number : a) {
            story.append(' ').append(number);
        }
        story.append(" -> ").append(got).append('\n');
        compare(name, got, due);
    }

    private void compare(String what, String got, String due) {
        if (isAlike && !got.equals(due)) {
            isAlike = false;
            story.append(what).append(" answered ").append(got).append(", due is ").append(due).append('\n');
        }
    }

    private interface Asked {
        Object ask();
    }

    private static String answer(Asked asked) {
        try {
            return String.valueOf(asked.ask());
        } catch (RuntimeException e) {
            return e.getClass().getName();
        }
    }

    private void compareAll() {
        compare("state", "" + keep.state(), "" + model.state());
        compare("tick", "" + keep.tick(), "" + model.tick());
        for (int x = 0; x < 12; x++) {
            for (int y = 0; y < 12; y++) {
                compare("cell " + x + " " + y, "" + keep.cell(x, y), "" + model.cell(x, y));
            }
        }
        for (int i = 0; i < model.creatures(); i++) {
            int creature = i;
            compare("placeOf " + i, "" + keep.placeOf(i), "" + model.placeOf(i));
            compare("healthOf " + i, "" + keep.healthOf(i), "" + model.healthOf(i));
            compare("aimOf " + i, answer(() -> keep.aimOf(creature)), answer(() -> model.aimOf(creature)));
        }
        for (int i = 0; i < model.things(); i++) {
            int thing = i;
            compare("whereIs " + i, "" + keep.whereIs(i), "" + model.whereIs(i));
            compare("weightOf " + i, "" + keep.weightOf(i), "" + model.weightOf(i));
            compare("nameOf " + i, answer(() -> keep.nameOf(thing)), answer(() -> model.nameOf(thing)));
        }
        int x = random.nextInt(12);
        int y = random.nextInt(12);
        compare("heroSees", answer(() -> keep.heroSees(x, y)), answer(() -> model.heroSees(x, y)));
        compare("isReachable", answer(() -> keep.isReachable(x, y)), answer(() -> model.isReachable(x, y)));
    }

    private Object ofKeep(String name, int[] a) {
        switch (name) {
            case "dig": return keep.dig(a[0], a[1], (char) a[2]);
            case "setKind": return keep.setKind(a[0], a[1], a[2] == 1);
            case "setEffect": return keep.setEffect(a[0], (char) a[1], a[2], a[3]);
            case "setHero": return keep.setHero(a[0], a[1], a[2], a[3]);
            case "addBeast": return keep.addBeast(a[0], a[1], a[2], a[3], a[4]);
            case "addThing": return keep.addThing(a[0], a[1], a[2], a[3]);
            case "addLamp": return keep.addLamp(a[0], a[1], a[2]);
            case "begin": return keep.begin(a[0]);
            case "leave": return keep.leave();
            case "go": return keep.go(a[0]);
            case "rest": return keep.rest();
            case "take": return keep.take(a[0]);
            case "drop": return keep.drop(a[0]);
            case "pack": return keep.pack(a[0], a[1]);
            case "drink": return keep.drink(a[0]);
            case "hurl": return keep.hurl(a[0], a[1]);
            case "shout": return keep.shout(a[0]);
            case "pray": return keep.pray();
            case "state": return keep.state();
            case "tick": return keep.tick();
            case "cell": return keep.cell(a[0], a[1]);
            case "see": return keep.see(a[0], a[1], a[2], a[3]);
            case "heroSees": return keep.heroSees(a[0], a[1]);
            case "placeOf": return keep.placeOf(a[0]);
            case "healthOf": return keep.healthOf(a[0]);
            case "aimOf": return keep.aimOf(a[0]);
            case "whereIs": return keep.whereIs(a[0]);
            case "weightOf": return keep.weightOf(a[0]);
            case "nameOf": return keep.nameOf(a[0]);
            case "isReachable": return keep.isReachable(a[0], a[1]);
            case "isSame": return keep.isSame();
            case "livingShare": return keep.livingShare();
            default: return keep.meanHealth();
        }
    }

    private Object ofModel(String name, int[] a) {
        switch (name) {
            case "dig": return model.dig(a[0], a[1], (char) a[2]);
            case "setKind": return model.setKind(a[0], a[1], a[2] == 1);
            case "setEffect": return model.setEffect(a[0], (char) a[1], a[2], a[3]);
            case "setHero": return model.setHero(a[0], a[1], a[2], a[3]);
            case "addBeast": return model.addBeast(a[0], a[1], a[2], a[3], a[4]);
            case "addThing": return model.addThing(a[0], a[1], a[2], a[3]);
            case "addLamp": return model.addLamp(a[0], a[1], a[2]);
            case "begin": return model.begin(a[0]);
            case "leave": return model.leave();
            case "go": return model.go(a[0]);
            case "rest": return model.rest();
            case "take": return model.take(a[0]);
            case "drop": return model.drop(a[0]);
            case "pack": return model.pack(a[0], a[1]);
            case "drink": return model.drink(a[0]);
            case "hurl": return model.hurl(a[0], a[1]);
            case "shout": return model.shout(a[0]);
            case "pray": return model.pray();
            case "state": return model.state();
            case "tick": return model.tick();
            case "cell": return model.cell(a[0], a[1]);
            case "see": return model.see(a[0], a[1], a[2], a[3]);
            case "heroSees": return model.heroSees(a[0], a[1]);
            case "placeOf": return model.placeOf(a[0]);
            case "healthOf": return model.healthOf(a[0]);
            case "aimOf": return model.aimOf(a[0]);
            case "whereIs": return model.whereIs(a[0]);
            case "weightOf": return model.weightOf(a[0]);
            case "nameOf": return model.nameOf(a[0]);
            case "isReachable": return model.isReachable(a[0], a[1]);
            case "isSame": return model.isSame();
            case "livingShare": return model.livingShare();
            default: return model.meanHealth();
        }
    }
}
