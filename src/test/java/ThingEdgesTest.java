/** The edges of what the document says of things: kinds, weights, bags, the hands, keys and throws. */
public final class ThingEdgesTest {
    private static final Class<UnsupportedOperationException> CANNOT = UnsupportedOperationException.class;
    private static final Class<IllegalStateException> NOT_NOW = IllegalStateException.class;

    private ThingEdgesTest() {
    }

    public static void main(String[] args) {
        noneTo24();
        kindsAndWeights();
        atMost30IsCarried();
        bagsWeighWithWhatIsInThem();
        whatIsLighterCanBeTaken();
        whatIsThrownWeighsNoMore();
        handsFromNoneTo24();
        bagsInBags24Deep();
        bagsTurnedInsideOut();
        countsOfABag();
        keysAtAnyDepth();
        bladesInTheHands();
        blowsOfAllKinds();
        fliesFromNoneTo5();
        stopsAtTheLivingAlone();
        reachesWithKeysAtAnyDepth();
        reachesKeyByKey();
        Check.end();
    }

    /** Keeps all of whose things lie at the hero, of these kinds. */
    private static DelveKeep with(String row, int... kinds) {
        DelveKeep keep = Keeps.dug(row);
        for (int kind : kinds) {
            keep.addThing(kind, 0, 0, -1);
        }
        return keep;
    }

    /** "At most 24 things are numbered from 0" */
    private static void noneTo24() {
        DelveKeep keep = Keeps.dug("@.");
        for (int things = 0; things <= 24; things++) {
            Check.is("how many", Keeps.things(keep), things);
            Check.is("begun with " + things, keep.begin(0), 1);
            for (int thing = 0; thing < things; thing++) {
                Check.is("thing " + thing + " of " + things, keep.whereIs(thing), thing % 2 * 100);
            }
            keep.leave();
            if (things < 24) {
                Check.is("the next", keep.addThing(things % 8, things % 2, 0, -1), things);
            }
        }
        Check.refused("the 25th", keep, NOT_NOW, () -> keep.addThing(0, 0, 0, -1));
    }

    /** "each of a kind from 0 to 7", "A kind has a weight, 0 to 9" */
    private static void kindsAndWeights() {
        for (int weight = 0; weight <= 9; weight++) {
            for (int kind = 0; kind <= 7; kind++) {
                DelveKeep keep = with("@.", 0, 1, 2, 3, 4, 5, 6, 7);
                Check.is("weight at first", keep.weightOf(kind), 1);
                Check.is("weight before", keep.setKind(kind, weight, kind % 2 == 0), 1);
                for (int other = 0; other <= 7; other++) {
                    Check.is("weight " + weight + " of " + other, keep.weightOf(other), other == kind ? weight : 1);
                }
                Check.is("weight before, anew", keep.setKind(kind, 9 - weight, false), weight);
                keep.begin(0);
                Check.is("carried", keep.take(kind), 9 - weight);
            }
        }
    }

    /** "The hero carries at most 30, what is in bags included." */
    private static void atMost30IsCarried() {
        DelveKeep keep = with("@.", 7, 7, 7, 6, 0, 0, 1, 2);
        keep.setKind(7, 9, false);
        keep.setKind(6, 3, false);
        keep.setKind(0, 0, false);
        keep.setKind(1, 1, false);
        keep.begin(0);
        int[] due = {9, 18, 27, 30, 30, 30};
        for (int thing = 0; thing < due.length; thing++) {
            Check.is("carried with thing " + thing, keep.take(thing), due[thing]);
        }
        Check.refused("31", keep, CANNOT, () -> keep.take(6));
        Check.is("30 can be packed", keep.pack(0, 3), 1);
        Check.refused("31, with what is in bags", keep, CANNOT, () -> keep.take(6));
        Check.is("21 is left", keep.drop(1), 21);
        Check.is("22", keep.take(6), 22);
        Check.refused("31 again", keep, CANNOT, () -> keep.take(1));
        Check.is("same", keep.isSame(), true);
        DelveKeep nine = with("@.", 7, 7, 7, 7);
        nine.setKind(7, 9, false);
        nine.begin(0);
        for (int thing = 0; thing < 3; thing++) {
            nine.take(thing);
        }
        Check.refused("36", nine, CANNOT, () -> nine.take(3));
        Check.is("no turn for what is too heavy", nine.tick(), 4);
    }

    private static void bagsWeighWithWhatIsInThem() {
        for (int more = 3; more <= 4; more++) {
            DelveKeep keep = Keeps.dug("@.");
            keep.setKind(6, 0, false);
            keep.setKind(7, 9, false);
            keep.setKind(0, more, false);
            keep.addThing(6, 0, 0, -1);
            keep.addThing(6, 0, 0, 0);
            keep.addThing(7, 0, 0, 0);
            keep.addThing(7, 0, 0, 1);
            keep.addThing(7, 0, 0, 1);
            keep.addThing(0, 0, 0, 1);
            Check.is("the whole weight", keep.weightOf(0), 27 + more);
            Check.is("that of the inner bag", keep.weightOf(1), 18 + more);
            keep.begin(0);
            if (more == 3) {
                Check.is("a bag of 30", keep.take(0), 30);
            } else {
                Check.refused("a bag of 31", keep, CANNOT, () -> keep.take(0));
            }
        }
        DelveKeep empty = with("@.", 6);
        Check.is("an empty bag", empty.weightOf(0), 1);
        empty.begin(0);
        Check.is("an empty bag is carried", empty.take(0), 1);
    }

    private static void whatIsLighterCanBeTaken() {
        DelveKeep keep = with("@.", 7, 7, 7, 3, 3);
        keep.setKind(7, 9, false);
        keep.setKind(3, 3, false);
        keep.begin(0);
        for (int thing = 0; thing < 4; thing++) {
            keep.take(thing);
        }
        Check.refused("33", keep, CANNOT, () -> keep.take(4));
        keep.drink(3);
        Check.is("what is drunk weighs no more", keep.take(4), 30);
    }

    private static void whatIsThrownWeighsNoMore() {
        DelveKeep keep = with("@.", 7, 7, 7, 3, 3, 7);
        keep.setKind(7, 9, false);
        keep.setKind(3, 3, false);
        keep.begin(0);
        for (int thing = 0; thing < 4; thing++) {
            keep.take(thing);
        }
        keep.hurl(3, 1);
        Check.is("what is broken weighs no more", keep.take(4), 30);
        Check.is("a blade flies", keep.hurl(0, 1), 1);
        Check.is("what is thrown weighs no more", keep.take(5), 30);
    }

    private static void handsFromNoneTo24() {
        DelveKeep keep = Keeps.dug("@.");
        for (int thing = 0; thing < 24; thing++) {
            keep.addThing(thing % 8, 0, 0, -1);
        }
        keep.begin(0);
        for (int thing = 0; thing < 24; thing++) {
            Check.is("taken " + thing, keep.take(thing), thing + 1);
            Check.is("in the hands", keep.whereIs(thing), -1);
            Check.is("how many in the hands", keep.pack(thing, -1), thing + 1);
        }
        keep.go(1);
        for (int thing = 23; thing >= 0; thing--) {
            Check.is("dropped " + thing, keep.drop(thing), thing);
            Check.is("it lies there", keep.whereIs(thing), 100);
        }
        Check.is("same", keep.isSame(), true);
    }

    /** "Its whole weight is its own and that of all that is in it, at any depth." */
    private static void bagsInBags24Deep() {
        for (int weight : new int[] {0, 1, 9}) {
            DelveKeep keep = Keeps.dug("@.");
            keep.setKind(6, weight, false);
            for (int thing = 0; thing < 24; thing++) {
                keep.addThing(6, 0, 0, thing - 1);
            }
            for (int thing = 0; thing < 24; thing++) {
                Check.is("depth " + thing, keep.whereIs(thing), thing == 0 ? 0 : -3 - (thing - 1));
                Check.is("weight at depth " + thing, keep.weightOf(thing), weight * (24 - thing));
            }
            keep.begin(0);
            if (weight == 9) {
                Check.refused("216 is too heavy", keep, CANNOT, () -> keep.take(0));
                continue;
            }
            Check.is("all is carried", keep.take(0), 24 * weight);
            Check.refused("the outermost into the innermost", keep, CANNOT, () -> keep.pack(0, 23));
            Check.refused("one into the next", keep, CANNOT, () -> keep.pack(22, 23));
            Check.is("the innermost into the hands", keep.pack(23, -1), 2);
            Check.is("all into what was the innermost", keep.pack(0, 23), 1);
            Check.is("it is in it", keep.whereIs(0), -26);
            Check.is("the same weight", keep.weightOf(23), 24 * weight);
            Check.is("all is laid down", keep.drop(23), 0);
            Check.is("the deepest is in its bag still", keep.whereIs(22), -24);
        }
    }

    private static void bagsTurnedInsideOut() {
        DelveKeep keep = Keeps.dug("@.");
        for (int thing = 0; thing < 24; thing++) {
            keep.addThing(6, 0, 0, -1);
        }
        keep.begin(0);
        for (int thing = 0; thing < 24; thing++) {
            keep.take(thing);
        }
        for (int thing = 0; thing < 23; thing++) {
            Check.is("into the next " + thing, keep.pack(thing, thing + 1), 1);
        }
        Check.is("the last holds all", keep.weightOf(23), 24);
        Check.is("one is in the hands", keep.pack(23, -1), 1);
        for (int thing = 0; thing < 22; thing++) {
            Check.is("the first takes " + thing, keep.pack(22 - thing, 23), thing == 0 ? 1 : thing + 1);
        }
        Check.is("same", keep.isSame(), true);
    }

    /** "Returns how many things are right in the bag then" */
    private static void countsOfABag() {
        DelveKeep keep = Keeps.dug("@.");
        for (int thing = 0; thing < 24; thing++) {
            keep.addThing(thing < 2 ? 6 : thing % 8, 0, 0, -1);
        }
        keep.begin(0);
        for (int thing = 0; thing < 24; thing++) {
            keep.take(thing);
        }
        for (int thing = 1; thing < 24; thing++) {
            Check.is("right in the bag with " + thing, keep.pack(thing, 0), thing);
            Check.is("in the bag it stays " + thing, keep.pack(thing, 0), thing);
        }
        for (int thing = 2; thing < 24; thing++) {
            Check.is("in the inner bag " + thing, keep.pack(thing, 1), thing - 1);
        }
        Check.is("right in the outer bag one is left", keep.pack(1, 0), 1);
        Check.is("out of the depth into the hands", keep.pack(23, -1), 2);
    }

    // ---- keys and blades

    /** "a locked one with its key, which is carried or in what is carried" */
    private static void keysAtAnyDepth() {
        for (int lock = 0; lock < 3; lock++) {
            for (int depth = 0; depth <= 22; depth++) {
                DelveKeep keep = Keeps.dug("@" + lock + ".");
                for (int bag = 0; bag < depth; bag++) {
                    keep.addThing(6, 0, 0, bag - 1);
                }
                keep.addThing(lock, 0, 0, depth - 1);
                keep.begin(0);
                Check.is("not carried, lock " + lock, keep.go(1), 'b');
                keep.take(0);
                Check.is("carried at depth " + depth + ", lock " + lock, keep.go(1), 'o');
                Check.is("the key is kept", keep.whereIs(depth), depth == 0 ? -1 : -3 - (depth - 1));
            }
            for (int other = 0; other < 8; other++) {
                DelveKeep keep = with("@" + lock + ".", other);
                keep.begin(0);
                keep.take(0);
                Check.is("kind " + other + " for lock " + lock, keep.go(1), other == lock ? 'o' : 'b');
                Check.is("a turn, or none", keep.tick(), other == lock ? 3 : 2);
            }
        }
    }

    /** "3 less, or 7 if a blade is carried, not in a bag" */
    private static void bladesInTheHands() {
        DelveKeep keep = with("@.", 6, 7, 7, 0, 3);
        keep.addBeast(1, 0, 1, 0, 30);
        keep.begin(0);
        keep.go(1);
        Check.is("without", keep.healthOf(1), 27);
        keep.take(0);
        keep.take(3);
        keep.go(1);
        Check.is("a bag and a key are no blades", keep.healthOf(1), 24);
        keep.take(1);
        keep.pack(1, 0);
        keep.go(1);
        Check.is("a blade in a bag", keep.healthOf(1), 21);
        keep.take(2);
        keep.go(1);
        Check.is("a blade in the hands, another in a bag", keep.healthOf(1), 14);
        keep.pack(1, -1);
        keep.go(1);
        Check.is("two blades", keep.healthOf(1), 7);
        keep.go(1);
        Check.is("dead at 0", keep.healthOf(1), 0);
        Check.is("dead", keep.go(1), 'm');
    }

    private static void blowsOfAllKinds() {
        for (int kind = 0; kind < 8; kind++) {
            DelveKeep keep = with("@..", kind);
            keep.setEffect(3, 's', 1, 0);
            keep.setEffect(4, 's', 1, 0);
            keep.setEffect(5, 's', 1, 0);
            keep.addBeast(1, 0, 1, 0, 30);
            keep.begin(0);
            keep.take(0);
            keep.go(1);
            Check.is("a blow with kind " + kind, keep.healthOf(1), kind == 7 ? 23 : 27);
            Check.is("a throw of kind " + kind, keep.hurl(0, 1), 1);
            Check.is("harm of a throw of kind " + kind, keep.healthOf(1), kind == 7 ? 19 : 27);
            Check.is("it lies there, or is gone " + kind, keep.whereIs(0), kind >= 3 && kind <= 5 ? -2 : 100);
        }
    }

    // ---- throws

    /** "stops ahead of a cell that is not free, on a cell with a living beast, or behind 5 cells" */
    private static void fliesFromNoneTo5() {
        for (int free = 0; free <= 8; free++) {
            for (char sign : "#+012".toCharArray()) {
                DelveKeep keep = with("@" + ".........".substring(0, free) + sign + ".", 0);
                keep.begin(0);
                keep.take(0);
                Check.is(free + " ahead of " + sign, keep.hurl(0, 1), Math.min(5, free));
                Check.is(free + " ahead of " + sign + ", it lies", keep.whereIs(0), 100 * Math.min(5, free));
            }
            if (free > 0) {
                DelveKeep keep = with("@..........", 0);
                keep.addBeast(free, 0, 1, 0, 30);
                keep.begin(0);
                keep.take(0);
                Check.is("onto a beast " + free + " off", keep.hurl(0, 1), Math.min(5, free));
                Check.is("onto a beast " + free + " off, it lies", keep.whereIs(0), 100 * Math.min(5, free));
            }
        }
        for (int off = 4; off <= 6; off++) {
            DelveKeep keep = with("@..........", 7);
            keep.addBeast(off, 0, 1, 0, 30);
            keep.begin(0);
            keep.take(0);
            keep.hurl(0, 1);
            Check.is("a blade at a beast " + off + " off", keep.healthOf(1), off <= 5 ? 26 : 30);
        }
    }

    private static void stopsAtTheLivingAlone() {
        DelveKeep keep = with("@......", 7, 7);
        keep.addBeast(1, 0, 1, 0, 3);
        keep.addBeast(3, 0, 1, 0, 30);
        keep.begin(0);
        keep.go(1);
        keep.take(0);
        Check.is("over a dead one onto a living one", keep.hurl(0, 1), 3);
        Check.is("the living one is struck", keep.healthOf(2), 26);
        Check.is("the dead one is not", keep.healthOf(1), 0);
        keep.take(1);
        Check.is("a blade flies over one that lies", keep.hurl(1, 1), 3);
        Check.is("both lie there", keep.whereIs(0) + keep.whereIs(1), 600);
    }

    // ---- what could be reached

    /** "... whose keys can be come to so, lie there or are in bags that do, or are carried at any depth" */
    private static void reachesWithKeysAtAnyDepth() {
        for (int lock = 0; lock < 3; lock++) {
            for (int depth = 0; depth <= 22; depth++) {
                DelveKeep keep = Keeps.dug("@.+." + lock + ".");
                keep.setHero(1, 0, 12, 30);
                for (int bag = 0; bag < depth; bag++) {
                    keep.addThing(6, 3, 0, bag - 1);
                }
                keep.addThing(lock, 3, 0, depth - 1);
                keep.begin(0);
                Check.is("a key that lies, depth " + depth, keep.isReachable(5, 0), true);
                Check.is("its lock", keep.isReachable(4, 0), true);
                keep.go(1);
                keep.go(1);
                keep.go(1);
                keep.take(0);
                keep.go(3);
                Check.is("a key that is carried, depth " + depth, keep.isReachable(5, 0), true);
                Check.is("rock is not reached", keep.isReachable(6, 0), false);
            }
        }
    }

    private static void reachesKeyByKey() {
        int[][] orders = {{0, 1, 2}, {0, 2, 1}, {1, 0, 2}, {1, 2, 0}, {2, 0, 1}, {2, 1, 0}};
        for (int[] order : orders) {
            for (int missing = -1; missing < 3; missing++) {
                DelveKeep keep = Keeps.dug("@" + order[0] + "." + order[1] + "." + order[2] + ".");
                for (int i = 2; i >= 0; i--) {
                    keep.addThing(i == missing ? 7 : order[i], 2 * i, 0, -1);
                }
                keep.begin(0);
                for (int x = 0; x < 7; x++) {
                    boolean isDue = missing < 0 || x <= 2 * missing;
                    Check.is("locks in a row, key " + missing + " not there, " + x, keep.isReachable(x, 0), isDue);
                }
            }
        }
        DelveKeep door = Keeps.dug("@+0.");
        door.addThing(0, 1, 0, -1);
        door.begin(0);
        Check.is("a key that lies in a closed door", door.isReachable(3, 0), true);
        DelveKeep own = Keeps.dug("@0.");
        own.addThing(0, 1, 0, -1);
        own.begin(0);
        Check.is("a key that lies in its own lock", own.isReachable(1, 0), false);
        DelveKeep beast = Keeps.dug("@..");
        beast.addBeast(1, 0, 1, 0, 1);
        beast.begin(0);
        Check.is("beasts are left aside", beast.isReachable(2, 0), true);
        Check.is("where a beast stands", beast.isReachable(1, 0), true);
        Check.is("where the hero stands", beast.isReachable(0, 0), true);
    }
}
