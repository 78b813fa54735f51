/** Points 1 and 2 of a tick: the entries are gone through, and the units follow their orders. */
public final class OrdersTest {
    private static final String ONE = "Tick, point 1";
    private static final String TWO = "Tick, point 2";

    public static void main(String[] args) {
        Check check = new Check();
        takingOrders(check);
        endsOfOrders(check);
        goals(check);
        walking(check);
        waiting(check);
        check.end();
    }

    private static void takingOrders(Check check) {
        entriesOfTheTick(check);
        entriesOfTheLastTick(check);
        entriesAsTheyCame(check);
        entriesOfTheDead(check);
        entryEmptiesThePath(check);
        entryEndsPatience(check);
        entryGivesTheOrder(check);
    }

    private static void endsOfOrders(Check check) {
        unitToFightIsDead(check);
        whatIsLeftWithoutOrder(check);
        ownTile(check);
        goalIsAWall(check);
        noWay(check);
    }

    private static void goals(Check check) {
        goalOfEachKind(check);
        besideTheOneToFight(check);
        comingBesideTheOneToFight(check);
        besideTheTileToGoTo(check);
        pathToAnotherGoal(check);
        pathToTheSameGoal(check);
        pathThroughTaken(check);
    }

    private static void walking(Check check) {
        inTurn(check);
        goesToATileThatIsNotTaken(check);
        stepEndsPatience(check);
        arriving(check);
    }

    private static void waiting(Check check) {
        patienceIsOneMore(check);
        patienceGoesOnOverPaths(check);
        patienceOfThree(check);
        wayRound(check);
        noWayRound(check);
        patienceLeft(check);
    }

    private static int[] unit(int tile, int patience, int order) {
        return TickNumber.unit(20, tile, patience, order);
    }

    private static void entriesOfTheTick(Check check) {
        check.sentence(ONE, "The entries with the tick t");
        LockstepField field = Scene.begun(0);
        field.command(3, 0, Scene.STOP, 0);
        field.command(1, 0, Scene.GO, 7);
        field.run(1);
        check.dueUnit("tick 0, before the entry's", field, 0, 0, 20, 0);
        field.run(1);
        check.dueUnit("tick 1", field, 0, 1, 20, Scene.go(7));
        field.run(1);
        check.dueUnit("tick 2", field, 0, 2, 20, Scene.go(7));
        field.run(1);
        check.dueUnit("tick 3", field, 0, 2, 20, 0);
        field.run(20);
        check.dueUnit("no entry counts again", field, 0, 2, 20, 0);
    }

    private static void entriesOfTheLastTick(Check check) {
        check.sentence(ONE, "The entries with the tick t");
        LockstepField field = Scene.begun(0, 63);
        field.command(199, 0, Scene.GO, 7);
        field.command(200, 1, Scene.GO, 0);
        field.command(Scene.MAX, 1, Scene.GO, 0);
        for (int i = 0; i < 9; i++) {
            field.run(20);
        }
        field.run(19);
        check.dueUnit("before tick 199", field, 0, 0, 20, 0);
        field.run(1);
        check.dueUnit("tick 199", field, 0, 1, 20, Scene.go(7));
        check.dueUnit("later ones never count", field, 1, 63, 20, 0);
    }

    private static void entriesAsTheyCame(Check check) {
        check.sentence(ONE, "are gone through in the order in which they came");
        LockstepField field = Scene.begun(27);
        field.command(1, 0, Scene.GO, 0);
        field.command(0, 0, Scene.GO, 24);
        field.command(0, 0, Scene.GO, 31);
        field.run(1);
        check.dueUnit("the later entry of tick 0", field, 0, 28, 20, Scene.go(31));
        field.run(1);
        check.dueUnit("tick 1", field, 0, 20, 20, Scene.go(0));
        LockstepField stopped = Scene.begun(27);
        stopped.command(0, 0, Scene.GO, 24);
        stopped.command(0, 0, Scene.STOP, 0);
        stopped.run(1);
        check.dueUnit("go, then stop", stopped, 0, 27, 20, 0);
        LockstepField started = Scene.begun(27);
        started.command(0, 0, Scene.STOP, 0);
        started.command(0, 0, Scene.GO, 24);
        started.run(1);
        check.dueUnit("stop, then go", started, 0, 26, 20, Scene.go(24));
    }

    private static void entriesOfTheDead(Check check) {
        check.sentence(ONE, "if its unit is not dead");
        LockstepField field = Scene.begun(0, 1);
        field.command(0, 0, Scene.FIGHT, 1);
        field.command(6, 1, Scene.GO, 5);
        field.command(7, 1, Scene.GO, 5);
        field.command(8, 1, Scene.FIGHT, 0);
        field.command(9, 1, Scene.STOP, 0);
        field.run(6);
        check.dueUnit("alive before tick 6", field, 1, 1, 2, 0);
        field.run(1);
        check.dueUnit("goes off in tick 6, in which it is alive", field, 1, 2, 2, Scene.go(5));
        LockstepField dead = Scene.begun(0, 1);
        dead.command(0, 0, Scene.FIGHT, 1);
        dead.command(7, 1, Scene.GO, 5);
        dead.command(8, 1, Scene.FIGHT, 0);
        dead.command(9, 1, Scene.STOP, 0);
        dead.run(7);
        for (int tick = 7; tick < 10; tick++) {
            dead.run(1);
            check.dueUnit("dead in tick " + tick, dead, 1, Scene.BAD, 0, 0);
            check.duePath("dead in tick " + tick, dead, 1);
            check.due("number(" + tick + ")", dead.number(tick), TickNumber.of(unit(0, 0, 0), TickNumber.dead()));
        }
    }

    /** The same order once more: the way round that patience gave is forgotten. */
    private static void entryEmptiesThePath(Check check) {
        check.sentence(ONE, "its path is empty");
        LockstepField field = Scene.begun(0, 1);
        field.command(0, 0, Scene.GO, 2);
        field.run(3);
        check.duePath("the way round", field, 0, 8, 9, 10, 2);
        field.command(3, 0, Scene.GO, 2);
        field.run(1);
        check.due("waits again", field.tile(0), 0);
        check.duePath("the straight way", field, 0, 1, 2);
        field.command(4, 0, Scene.STOP, 0);
        field.run(1);
        check.duePath("stopped", field, 0);
    }

    private static void entryEndsPatience(Check check) {
        check.sentence(ONE, "its patience 0");
        LockstepField field = Scene.begun(0, 1);
        field.command(0, 0, Scene.GO, 2);
        field.command(2, 0, Scene.GO, 2);
        field.command(4, 0, Scene.STOP, 0);
        field.run(5);
        int[] patience = {1, 2, 1, 2};
        for (int tick = 0; tick < patience.length; tick++) {
            check.due("number(" + tick + ")", field.number(tick),
                TickNumber.of(unit(0, patience[tick], Scene.GO), unit(1, 0, 0)));
        }
        check.due("stopped", field.number(4), TickNumber.of(unit(0, 0, 0), unit(1, 0, 0)));
    }

    private static void entryGivesTheOrder(Check check) {
        check.sentence(ONE, "and its order that of the entry (STOP: none)");
        LockstepField field = Scene.begun(0, 63);
        field.command(0, 0, Scene.GO, 7);
        field.command(1, 0, Scene.FIGHT, 1);
        field.command(2, 0, Scene.STOP, 55);
        field.command(3, 1, Scene.FIGHT, 0);
        field.run(1);
        check.due("GO", field.order(0), Scene.go(7));
        field.run(1);
        check.due("FIGHT", field.order(0), Scene.fight(1));
        field.run(1);
        check.dueUnit("STOP", field, 0, 2, 20, 0);
        field.run(1);
        check.dueUnit("stays", field, 0, 2, 20, 0);
        check.due("an entry counts for its unit alone", field.order(1), Scene.fight(0));
    }

    private static void unitToFightIsDead(Check check) {
        check.sentence(TWO, "if that is dead");
        LockstepField field = Scene.begun(0, 1, 63);
        field.command(0, 0, Scene.FIGHT, 1);
        field.run(7);
        check.due("unit 1 is dead", field.points(1), 0);
        check.due("point 2 was before that", field.order(0), Scene.fight(1));
        field.run(1);
        check.dueUnit("in the next tick", field, 0, 0, 20, 0);
        field.command(8, 2, Scene.FIGHT, 1);
        field.run(1);
        check.dueUnit("told to fight a dead one", field, 2, 63, 20, 0);
        check.duePath("told to fight a dead one", field, 2);
    }

    /** The document says only that the order is none then: the path is not named, and stays. */
    private static void whatIsLeftWithoutOrder(Check check) {
        check.sentence(TWO, "Each unit in turn that is not dead and has an order");
        LockstepField field = Scene.begun(0, 63, 62);
        field.command(0, 0, Scene.FIGHT, 1);
        field.command(0, 2, Scene.FIGHT, 1);
        field.run(7);
        check.due("the one to fight is dead", field.tile(1), Scene.BAD);
        check.dueUnit("not known yet", field, 0, 7, 20, Scene.fight(1));
        for (int i = 0; i < 3; i++) {
            field.run(1);
            check.dueUnit("no order more, and no step", field, 0, 7, 20, 0);
            check.duePath("what was left of it", field, 0, 15, 23, 31, 39, 47, 55, 63);
        }
        field.command(10, 0, Scene.STOP, 0);
        field.run(1);
        check.duePath("an entry empties it", field, 0);
    }

    private static void ownTile(Check check) {
        check.sentence(TWO, "or GO's tile is its own");
        for (int tile : new int[] {0, 27, 63}) {
            LockstepField field = Scene.begun(tile);
            field.command(0, 0, Scene.GO, tile);
            field.run(1);
            check.dueUnit("GO to its own tile", field, 0, tile, 20, 0);
            check.duePath("GO to its own tile", field, 0);
        }
    }

    private static void goalIsAWall(Check check) {
        check.sentence(TWO, "or a wall, the order is none");
        LockstepField field = Scene.walled(Scene.walls(1, 63), 0);
        field.command(0, 0, Scene.GO, 1);
        field.command(1, 0, Scene.GO, 63);
        for (int tick = 0; tick < 2; tick++) {
            field.run(1);
            check.dueUnit("tick " + tick, field, 0, 0, 20, 0);
            check.duePath("tick " + tick, field, 0);
        }
    }

    private static void noWay(Check check) {
        check.sentence(TWO, "If it is empty still: the order is none.");
        LockstepField field = Scene.walled(Scene.walls(1, 8), 0, 63);
        field.command(0, 0, Scene.GO, 20);
        field.command(0, 1, Scene.FIGHT, 0);
        field.command(1, 0, Scene.FIGHT, 1);
        field.command(1, 1, Scene.GO, 0);
        for (int tick = 0; tick < 2; tick++) {
            field.run(1);
            check.dueUnit("tick " + tick, field, 0, 0, 20, 0);
            check.dueUnit("tick " + tick, field, 1, 63, 20, 0);
            check.duePath("tick " + tick, field, 0);
            check.duePath("tick " + tick, field, 1);
        }
    }

    /** Tile 1 and unit 1 have the same number. */
    private static void goalOfEachKind(Check check) {
        check.sentence(TWO, "THE GOAL is the tile of GO, or that of the unit to FIGHT");
        LockstepField field = Scene.begun(3, 59);
        field.command(0, 0, Scene.GO, 1);
        field.command(0, 1, Scene.GO, 58);
        field.command(1, 0, Scene.FIGHT, 1);
        field.run(1);
        check.due("to tile 1", field.tile(0), 2);
        check.duePath("to tile 1", field, 0, 1);
        field.run(1);
        check.due("to where unit 1 stands now", field.tile(0), 10);
        check.duePath("to where unit 1 stands now", field, 0, 18, 26, 34, 42, 50, 58);
    }

    private static void besideTheOneToFight(Check check) {
        check.sentence(TWO, "If it is to FIGHT and the distance to the goal is 1, its path is empty.");
        LockstepField field = Scene.begun(0, 3);
        field.command(0, 0, Scene.FIGHT, 1);
        field.run(2);
        check.dueUnit("beside it", field, 0, 2, 20, Scene.fight(1));
        check.duePath("the last step is not gone", field, 0, 3);
        field.run(1);
        check.dueUnit("stays beside it", field, 0, 2, 20, Scene.fight(1));
        check.duePath("empty then", field, 0);
    }

    private static void comingBesideTheOneToFight(Check check) {
        check.sentence(TWO, "If it is to FIGHT and the distance to the goal is 1, its path is empty.");
        LockstepField field = Scene.begun(0, 10);
        field.command(0, 0, Scene.FIGHT, 1);
        field.command(0, 1, Scene.GO, 9);
        field.run(1);
        check.due("one step", field.tile(0), 1);
        check.duePath("to where it stood", field, 0, 2, 10);
        field.run(1);
        check.dueUnit("it has come beside", field, 0, 1, 20, Scene.fight(1));
        check.duePath("it has come beside", field, 0);
    }

    /** Only who is to FIGHT stops there: who is to GO waits for the tile. */
    private static void besideTheTileToGoTo(Check check) {
        check.sentence(TWO, "If it is to FIGHT and the distance to the goal is 1");
        LockstepField field = Scene.begun(0, 1);
        field.command(0, 0, Scene.GO, 1);
        field.command(2, 1, Scene.GO, 2);
        field.run(2);
        check.dueUnit("waits", field, 0, 0, 20, Scene.go(1));
        check.duePath("waits", field, 0, 1);
        check.due("with patience 2", field.number(1), TickNumber.of(unit(0, 2, Scene.GO), unit(1, 0, 0)));
        field.run(2);
        check.dueUnit("there", field, 0, 1, 20, 0);
    }

    private static void pathToAnotherGoal(Check check) {
        check.sentence(TWO, "or does not end with the goal, it becomes the path from its tile to the goal");
        LockstepField field = Scene.begun(0, 4);
        field.command(0, 0, Scene.FIGHT, 1);
        field.command(0, 1, Scene.GO, 36);
        field.run(1);
        check.dueUnit("tick 0", field, 0, 1, 20, Scene.fight(1));
        check.duePath("to where it stood", field, 0, 2, 3, 4);
        field.run(1);
        check.due("tick 1", field.tile(0), 2);
        check.duePath("to where it stood then", field, 0, 3, 4, 12);
        check.due("the other goes on", field.tile(1), 20);
        LockstepField nearer = Scene.begun(0, 6);
        nearer.command(0, 0, Scene.FIGHT, 1);
        nearer.command(0, 1, Scene.GO, 0);
        nearer.run(1);
        check.duePath("to where it stood", nearer, 0, 2, 3, 4, 5, 6);
        nearer.run(1);
        check.duePath("the goal is of the path, not its end", nearer, 0, 3, 4, 5);
    }

    private static void pathToTheSameGoal(Check check) {
        check.sentence(TWO, "if its path is empty, or does not end with the goal");
        LockstepField field = Scene.begun(0, 1);
        field.command(0, 0, Scene.GO, 2);
        field.command(3, 1, Scene.GO, 7);
        field.run(4);
        check.due("tick 3", field.tile(0), 8);
        check.duePath("kept though the short way is free", field, 0, 9, 10, 2);
        field.run(2);
        check.due("tick 5", field.tile(0), 10);
        check.duePath("kept", field, 0, 2);
        field.run(1);
        check.dueUnit("there", field, 0, 2, 20, 0);
    }

    private static void pathThroughTaken(Check check) {
        check.sentence(TWO, "with none avoided");
        LockstepField field = Scene.begun(0, 1, 8, 2);
        field.command(0, 0, Scene.GO, 3);
        field.run(1);
        check.dueUnit("waits", field, 0, 0, 20, Scene.go(3));
        check.duePath("through units 1 and 3", field, 0, 1, 2, 3);
    }

    private static void inTurn(Check check) {
        check.sentence(TWO, "Each unit in turn");
        LockstepField ahead = Scene.begun(1, 0);
        ahead.command(0, 1, Scene.GO, 6);
        ahead.command(0, 0, Scene.GO, 7);
        ahead.run(1);
        check.due("the first makes room", ahead.tile(0), 2);
        check.due("for the second", ahead.tile(1), 1);
        LockstepField behind = Scene.begun(0, 1);
        behind.command(0, 0, Scene.GO, 6);
        behind.command(0, 1, Scene.GO, 7);
        behind.run(1);
        check.due("the first has no room yet", behind.tile(0), 0);
        check.due("the second goes", behind.tile(1), 2);
        behind.run(1);
        check.due("then the first goes", behind.tile(0), 1);
    }

    private static void goesToATileThatIsNotTaken(Check check) {
        check.sentence(TWO, "If the first tile of the path is not taken: it goes there, "
            + "and that tile is no more of the path");
        LockstepField field = Scene.begun(0, 3);
        field.command(0, 0, Scene.GO, 4);
        field.run(1);
        check.due("a step", field.tile(0), 1);
        check.duePath("a taken tile further on is no matter", field, 0, 2, 3, 4);
        field.run(2);
        check.dueUnit("before unit 1", field, 0, 2, 20, Scene.go(4));
        check.duePath("before unit 1", field, 0, 3, 4);
        LockstepField both = Scene.begun(0, 2);
        both.command(0, 0, Scene.GO, 7);
        both.command(0, 1, Scene.GO, 0);
        both.run(1);
        check.due("the first one gets the tile", both.tile(0), 1);
        check.due("the second one waits before it", both.tile(1), 2);
        check.duePath("the second one waits before it", both, 1, 1, 0);
    }

    /** Two ticks of waiting, a step, and the third tick of waiting brings no way round. */
    private static void stepEndsPatience(Check check) {
        check.sentence(TWO, "patience is 0");
        LockstepField field = Scene.begun(0, 1, 3);
        field.command(0, 0, Scene.GO, 4);
        field.command(1, 1, Scene.GO, 2);
        field.run(3);
        check.due("two waits", field.number(1),
            TickNumber.of(unit(0, 2, Scene.GO), unit(2, 0, 0), unit(3, 0, 0)));
        check.due("a step", field.number(2), TickNumber.of(unit(1, 0, Scene.GO), unit(2, 0, 0), unit(3, 0, 0)));
        field.run(2);
        check.duePath("two waits more", field, 0, 2, 3, 4);
        field.run(1);
        check.duePath("the third", field, 0, 9, 10, 11, 12, 4);
    }

    private static void arriving(Check check) {
        check.sentence(TWO, "(and if it is to GO and is there now, the order is none)");
        LockstepField field = Scene.begun(0);
        field.command(0, 0, Scene.GO, 2);
        field.run(1);
        check.dueUnit("on the way", field, 0, 1, 20, Scene.go(2));
        check.duePath("on the way", field, 0, 2);
        field.run(1);
        check.dueUnit("there", field, 0, 2, 20, 0);
        check.duePath("there", field, 0);
        check.due("in the tick itself", field.number(1), TickNumber.of(unit(2, 0, 0)));
        // Unit 1 is the number that the unit has for a tile, too: who is to FIGHT is not there by that.
        LockstepField fighting = Scene.begun(0, 7);
        fighting.command(0, 0, Scene.FIGHT, 1);
        fighting.run(1);
        check.dueUnit("to FIGHT unit 1, on tile 1", fighting, 0, 1, 20, Scene.fight(1));
    }

    private static void patienceIsOneMore(Check check) {
        check.sentence(TWO, "If it is taken: patience is one more");
        LockstepField field = Scene.begun(0, 1);
        field.command(0, 0, Scene.GO, 2);
        field.run(2);
        check.due("once", field.number(0), TickNumber.of(unit(0, 1, Scene.GO), unit(1, 0, 0)));
        check.due("twice", field.number(1), TickNumber.of(unit(0, 2, Scene.GO), unit(1, 0, 0)));
        check.dueUnit("it stays", field, 0, 0, 20, Scene.go(2));
        check.duePath("and so does its path", field, 0, 1, 2);
    }

    /** The one to fight goes on, so the path is another one in each tick; the tile before the unit stays taken. */
    private static void patienceGoesOnOverPaths(Check check) {
        check.sentence(TWO, "If it is taken: patience is one more");
        LockstepField field = Scene.walled(Scene.walls(8), 0, 7, 1);
        field.command(0, 0, Scene.FIGHT, 1);
        field.command(0, 1, Scene.GO, 63);
        field.run(3);
        int[] patience = {1, 2, 0};
        for (int tick = 0; tick < 3; tick++) {
            check.due("number(" + tick + ")", field.number(tick), TickNumber.of(
                unit(0, patience[tick], Scene.FIGHT), unit(15 + 8 * tick, 0, Scene.GO), unit(1, 0, 0)));
        }
    }

    /** No other way: patience goes 1, 2, 0, 1, 2, 0. */
    private static void patienceOfThree(Check check) {
        check.sentence(TWO, "if it is 3 then, it is 0");
        LockstepField field = Scene.walled(Scene.walls(8), 0, 1);
        field.command(0, 0, Scene.GO, 3);
        field.command(5, 1, Scene.GO, 2);
        field.run(8);
        int[] patience = {1, 2, 0, 1, 2};
        for (int tick = 0; tick < 5; tick++) {
            check.due("waiting in tick " + tick, field.number(tick),
                TickNumber.of(unit(0, patience[tick], Scene.GO), unit(1, 0, 0)));
        }
        check.due("the third time as the other goes", field.number(5),
            TickNumber.of(unit(0, 0, Scene.GO), unit(2, 0, 0)));
        check.due("one step on", field.number(6), TickNumber.of(unit(1, 0, Scene.GO), unit(2, 0, 0)));
        check.due("waiting again", field.number(7), TickNumber.of(unit(1, 1, Scene.GO), unit(2, 0, 0)));
    }

    private static void wayRound(Check check) {
        check.sentence(TWO, "and the path becomes the one with all taken tiles avoided");
        LockstepField field = Scene.begun(0, 1, 9, 20);
        field.command(0, 0, Scene.GO, 2);
        field.run(2);
        check.duePath("not before the third time", field, 0, 1, 2);
        field.run(1);
        check.due("no step in that tick", field.tile(0), 0);
        check.duePath("round all that stand there", field, 0, 8, 16, 17, 18, 10, 2);
        field.run(1);
        check.due("a step in the next", field.tile(0), 8);
        check.duePath("a step in the next", field, 0, 16, 17, 18, 10, 2);
        LockstepField goal = Scene.begun(0, 1, 2);
        goal.command(0, 0, Scene.GO, 2);
        goal.command(13, 2, Scene.GO, 3);
        goal.run(13);
        check.dueUnit("before a goal that is taken", goal, 0, 10, 20, Scene.go(2));
        check.duePath("before a goal that is taken", goal, 0, 2);
        goal.run(2);
        check.dueUnit("there when it is free", goal, 0, 2, 20, 0);
    }

    private static void noWayRound(Check check) {
        check.sentence(TWO, "if that is not empty");
        LockstepField field = Scene.walled(Scene.walls(8), 0, 1);
        field.command(0, 0, Scene.GO, 2);
        field.run(3);
        check.dueUnit("no other way", field, 0, 0, 20, Scene.go(2));
        check.duePath("the path stays", field, 0, 1, 2);
        field.command(3, 1, Scene.GO, 9);
        field.run(2);
        check.due("goes on when there is room", field.tile(0), 1);
        LockstepField crowd = Scene.begun(0, 1, 8);
        crowd.command(0, 0, Scene.GO, 2);
        crowd.run(6);
        check.dueUnit("units on all sides", crowd, 0, 0, 20, Scene.go(2));
        check.duePath("units on all sides", crowd, 0, 1, 2);
    }

    /** The document names patience in points 1 and 2 alone, and not where an order ends or a fight is near. */
    private static void patienceLeft(Check check) {
        check.sentence(TWO, "patience");
        LockstepField field = Scene.walled(Scene.walls(8), 0, 1, 63, 62);
        field.command(0, 0, Scene.FIGHT, 2);
        field.command(0, 3, Scene.FIGHT, 2);
        field.run(8);
        check.due("waiting as the one to fight dies", field.number(6),
            TickNumber.of(unit(0, 1, Scene.FIGHT), unit(1, 0, 0), TickNumber.dead(), unit(62, 0, Scene.FIGHT)));
        check.due("no order then", field.number(7),
            TickNumber.of(unit(0, 1, 0), unit(1, 0, 0), TickNumber.dead(), unit(62, 0, 0)));
        LockstepField near = Scene.begun(0, 1, 9);
        near.command(0, 0, Scene.FIGHT, 2);
        near.command(0, 2, Scene.GO, 8);
        near.run(2);
        check.due("the one to fight comes beside", near.number(0),
            TickNumber.of(unit(0, 1, Scene.FIGHT), unit(1, 0, 0), TickNumber.unit(17, 8, 0, 0)));
        check.due("beside it", near.number(1),
            TickNumber.of(unit(0, 1, Scene.FIGHT), unit(1, 0, 0), TickNumber.unit(14, 8, 0, 0)));
    }
}
