/** Promises 5, 6 and 14: command, forget, entries. */
public final class LogTest {
    private static final String COMMAND = "Promise 5";
    private static final String FORGET = "Promise 6";
    private static final String ENTRIES = "Promise 14";

    public static void main(String[] args) {
        Check check = new Check();
        commands(check);
        badCommands(check);
        earlyAndFullCommands(check);
        forgetting(check);
        countOfEntries(check);
        check.end();
    }

    private static void commands(Check check) {
        behindThoseThere(check);
        anyTickThatIsNotOver(check);
        goToAWall(check);
        numberOfStop(check);
        numbersAsTheyLie(check);
    }

    private static void badCommands(Check check) {
        noSuchUnit(check);
        noSuchKind(check);
        goToNoTile(check);
        fightNoUnit(check);
        fightTheSame(check);
        deadAndOwnUnits(check);
    }

    private static void earlyAndFullCommands(Check check) {
        commandBeforeBegin(check);
        commandForATickThatIsOver(check);
        commandToAFullLog(check);
        roomAgain(check);
    }

    private static void forgetting(Check check) {
        forgetAnEntryToCome(check);
        forgetAnEntryPlayed(check);
        numberedAnew(check);
        forgetNone(check);
    }

    /** Eight ticks are played; the log is full, the last entries are for tick 9, and the very last is to GO to 33. */
    private static LockstepField fullLog() {
        LockstepField field = Scene.midway();
        for (int k = field.entries(); k < 24; k++) {
            field.command(9, 2, Scene.GO, 10 + k);
        }
        return field;
    }

    private static void behindThoseThere(Check check) {
        check.sentence(COMMAND, "An entry comes to the log, behind those there");
        LockstepField field = Scene.begun(27, 63);
        check.due("first", field.command(5, 0, Scene.GO, 9), 0);
        check.due("of an earlier tick", field.command(0, 1, Scene.FIGHT, 0), 1);
        check.due("the same once more", field.command(5, 0, Scene.GO, 9), 2);
        check.due("of the same tick and unit", field.command(5, 0, Scene.GO, 31), 3);
        field.run(6);
        check.due("the last one counts", field.order(0), Scene.go(31));
    }

    private static void anyTickThatIsNotOver(Check check) {
        check.sentence(COMMAND, "for any tick that is not over");
        LockstepField field = Scene.begun(0, 63);
        check.due("tick 0", field.command(0, 0, Scene.GO, 7), 0);
        field.run(3);
        check.due("the next tick", field.command(3, 0, Scene.GO, 56), 1);
        check.due("the last tick", field.command(199, 0, Scene.GO, 1), 2);
        check.due("a tick that is never played", field.command(200, 0, Scene.GO, 1), 3);
        check.due("the greatest number", field.command(Scene.MAX, 0, Scene.GO, 1), 4);
        field.run(1);
        check.due("the next tick's counts", field.order(0), Scene.go(56));
        check.due("none of them is lost", field.entries(), 5);
    }

    private static void goToAWall(Check check) {
        check.sentence(COMMAND, "(GO's tile may be a wall");
        LockstepField field = Scene.walled(Scene.walls(0, 9, 63), 8);
        check.due("wall 9", field.command(0, 0, Scene.GO, 9), 0);
        check.due("wall 0", field.command(0, 0, Scene.GO, 0), 1);
        check.due("wall 63", field.command(0, 0, Scene.GO, 63), 2);
        check.due("its own tile", field.command(0, 0, Scene.GO, 8), 3);
        check.due("entries()", field.entries(), 4);
    }

    private static void numberOfStop(Check check) {
        check.sentence(COMMAND, "number of kind 0 is not looked at)");
        LockstepField field = Scene.begun(0, 63);
        int[] numbers = {0, 1, -1, 64, 8, Scene.MIN, Scene.MAX};
        for (int i = 0; i < numbers.length; i++) {
            check.due("STOP with " + numbers[i], field.command(i, 0, Scene.STOP, numbers[i]), i);
            field.run(1);
            check.dueUnit("STOP with " + numbers[i], field, 0, 0, 20, 0);
        }
    }

    private static void numbersAsTheyLie(Check check) {
        check.sentence(COMMAND, "its number (from 0, as they lie)");
        LockstepField field = Scene.begun(0, 63);
        for (int k = 0; k < 24; k++) {
            check.due("entry " + k, field.command(k % 3, k % 2, Scene.GO, k), k);
        }
        field.forget(0);
        field.forget(10);
        check.due("behind two that are gone", field.command(0, 0, Scene.GO, 5), 22);
    }

    private static void noSuchUnit(Check check) {
        check.sentence(COMMAND, "BAD when there is no such unit");
        Twins two = new Twins(check, () -> Scene.begun(0, 63));
        Twins eight = new Twins(check, Scene::midway);
        for (int kind = 0; kind < 3; kind++) {
            int k = kind;
            for (int unit : new int[] {-1, 2, 7, Scene.MIN, Scene.MAX}) {
                two.unchanged("unit " + unit + " of 2", Scene.BAD, field -> field.command(0, unit, k, 1));
            }
            for (int unit : new int[] {-1, 8, 9, Scene.MIN, Scene.MAX}) {
                eight.unchanged("unit " + unit + " of 8", Scene.BAD, field -> field.command(8, unit, k, 1));
            }
        }
        LockstepField none = Scene.begun();
        check.due("no units at all", none.command(0, 0, Scene.STOP, 0), Scene.BAD);
    }

    private static void noSuchKind(Check check) {
        check.sentence(COMMAND, "kind is not 0 .. 2");
        Twins twins = new Twins(check, Scene::midway);
        for (int kind : new int[] {-1, 3, 4, Scene.MIN, Scene.MAX}) {
            twins.unchanged("kind " + kind, Scene.BAD, field -> field.command(8, 0, kind, 1));
        }
    }

    private static void goToNoTile(Check check) {
        check.sentence(COMMAND, "its number (but with 0) is no tile");
        Twins twins = new Twins(check, Scene::midway);
        for (int tile : new int[] {-1, 64, 65, Scene.MIN, Scene.MAX}) {
            twins.unchanged("GO to " + tile, Scene.BAD, field -> field.command(8, 0, Scene.GO, tile));
        }
        LockstepField field = Scene.begun(8, 9);
        check.due("GO to 0", field.command(0, 0, Scene.GO, 0), 0);
        check.due("GO to 63", field.command(0, 0, Scene.GO, 63), 1);
    }

    private static void fightNoUnit(Check check) {
        check.sentence(COMMAND, "or no unit");
        Twins two = new Twins(check, () -> Scene.begun(0, 63));
        for (int other : new int[] {-1, 2, 7, 8, 63, Scene.MIN, Scene.MAX}) {
            two.unchanged("FIGHT " + other + " of 2", Scene.BAD, field -> field.command(0, 0, Scene.FIGHT, other));
        }
        Twins eight = new Twins(check, Scene::midway);
        eight.unchanged("FIGHT 8 of 8", Scene.BAD, field -> field.command(8, 0, Scene.FIGHT, 8));
        LockstepField field = Scene.midway();
        check.due("FIGHT the first", field.command(8, 7, Scene.FIGHT, 0), 7);
        check.due("FIGHT the last", field.command(8, 0, Scene.FIGHT, 7), 8);
    }

    private static void fightTheSame(Check check) {
        check.sentence(COMMAND, "or the same");
        Twins twins = new Twins(check, Scene::midway);
        for (int unit = 0; unit < 8; unit++) {
            int same = unit;
            twins.unchanged(unit + " fights itself", Scene.BAD, field -> field.command(8, same, Scene.FIGHT, same));
        }
        LockstepField field = Scene.begun(8, 9);
        check.due("GO to the tile of its own number", field.command(0, 1, Scene.GO, 1), 0);
        check.due("STOP with its own number", field.command(0, 1, Scene.STOP, 1), 1);
    }

    private static void deadAndOwnUnits(Check check) {
        check.sentence(COMMAND, "(units of either side, dead or not, are told alike)");
        LockstepField field = new LockstepField();
        field.unit(0, 0);
        field.unit(0, 1);
        field.unit(1, 63);
        field.begin();
        check.due("FIGHT one of its side", field.command(0, 0, Scene.FIGHT, 1), 0);
        field.run(8);
        check.due("it is dead", field.points(1), 0);
        check.due("FIGHT a dead one", field.command(8, 0, Scene.FIGHT, 1), 1);
        check.due("tell a dead one to GO", field.command(8, 1, Scene.GO, 5), 2);
        check.due("tell a dead one to FIGHT", field.command(8, 1, Scene.FIGHT, 0), 3);
        check.due("tell a dead one to STOP", field.command(8, 1, Scene.STOP, 0), 4);
        check.due("tell one of side 1", field.command(8, 2, Scene.FIGHT, 0), 5);
        check.due("a dead one still can't FIGHT itself", field.command(8, 1, Scene.FIGHT, 1), Scene.BAD);
        field.run(1);
        check.dueUnit("the dead one does nothing", field, 1, Scene.BAD, 0, 0);
        check.dueUnit("none to fight", field, 0, 0, 20, 0);
    }

    private static void commandBeforeBegin(Check check) {
        check.sentence(COMMAND, "EARLY, behind that, when the play has not begun");
        Twins twins = new Twins(check, () -> Scene.set(0, 63));
        twins.unchanged("tick 0", Scene.EARLY, field -> field.command(0, 0, Scene.GO, 9));
        twins.unchanged("tick 5", Scene.EARLY, field -> field.command(5, 1, Scene.STOP, 0));
        twins.unchanged("BAD before EARLY, unit", Scene.BAD, field -> field.command(0, 2, Scene.GO, 9));
        twins.unchanged("BAD before EARLY, kind", Scene.BAD, field -> field.command(0, 0, 3, 9));
        twins.unchanged("BAD before EARLY, tile", Scene.BAD, field -> field.command(0, 0, Scene.GO, 64));
        twins.unchanged("BAD before EARLY, other", Scene.BAD, field -> field.command(0, 0, Scene.FIGHT, 2));
        twins.unchanged("BAD before EARLY, itself", Scene.BAD, field -> field.command(0, 0, Scene.FIGHT, 0));
    }

    /** A tick before tick 0 is over, too: the play goes on from there, and it can't come any more. */
    private static void commandForATickThatIsOver(Check check) {
        check.sentence(COMMAND, "or the tick is over (was played)");
        Twins twins = new Twins(check, Scene::midway);
        for (int tick : new int[] {7, 6, 0, -1, Scene.MIN}) {
            twins.unchanged("tick " + tick, Scene.EARLY, field -> field.command(tick, 0, Scene.GO, 9));
            twins.unchanged("BAD before EARLY, unit", Scene.BAD, field -> field.command(tick, 8, Scene.GO, 9));
            twins.unchanged("BAD before EARLY, kind", Scene.BAD, field -> field.command(tick, 0, 3, 9));
            twins.unchanged("BAD before EARLY, tile", Scene.BAD, field -> field.command(tick, 0, Scene.GO, 64));
            twins.unchanged("BAD before EARLY, itself", Scene.BAD, field -> field.command(tick, 0, Scene.FIGHT, 0));
        }
        LockstepField fresh = Scene.begun(0);
        check.due("before tick 0", fresh.command(-1, 0, Scene.GO, 9), Scene.EARLY);
        check.due("tick 0 is not over", fresh.command(0, 0, Scene.GO, 9), 0);
        LockstepField ended = Scene.begun(0);
        for (int i = 0; i < 10; i++) {
            ended.run(20);
        }
        check.due("the last tick is over", ended.command(199, 0, Scene.GO, 9), Scene.EARLY);
        check.due("the tick behind it is not", ended.command(200, 0, Scene.GO, 9), 0);
    }

    private static void commandToAFullLog(Check check) {
        check.sentence(COMMAND, "FULL, last, when there are 24");
        Twins twins = new Twins(check, LogTest::fullLog);
        twins.unchanged("one more", Scene.FULL, field -> field.command(9, 2, Scene.GO, 5));
        twins.unchanged("one more for another tick", Scene.FULL, field -> field.command(8, 0, Scene.STOP, 0));
        twins.unchanged("BAD before FULL, unit", Scene.BAD, field -> field.command(8, 8, Scene.STOP, 0));
        twins.unchanged("BAD before FULL, kind", Scene.BAD, field -> field.command(8, 0, 3, 0));
        twins.unchanged("BAD before FULL, tile", Scene.BAD, field -> field.command(8, 0, Scene.GO, 64));
        twins.unchanged("BAD before FULL, itself", Scene.BAD, field -> field.command(8, 0, Scene.FIGHT, 0));
        twins.unchanged("EARLY before FULL", Scene.EARLY, field -> field.command(7, 0, Scene.STOP, 0));
        twins.unchanged("BAD before EARLY and FULL", Scene.BAD, field -> field.command(7, 0, Scene.FIGHT, 0));
    }

    private static void roomAgain(Check check) {
        check.sentence(COMMAND, "FULL, last, when there are 24");
        LockstepField field = fullLog();
        field.run(2);
        check.due("entries that were played stay", field.entries(), 24);
        check.due("no room still", field.command(10, 0, Scene.GO, 5), Scene.FULL);
        check.due("the last one counted", field.order(2), Scene.go(33));
        check.due("forget(23)", field.forget(23), true);
        check.due("room again", field.command(10, 0, Scene.GO, 5), 23);
        check.due("and no more", field.command(10, 0, Scene.GO, 5), Scene.FULL);
    }

    private static void forgetAnEntryToCome(Check check) {
        check.sentence(FORGET, "goes from the log");
        LockstepField field = Scene.begun(0, 63);
        field.command(0, 0, Scene.GO, 7);
        check.due("forget(0)", field.forget(0), true);
        check.due("entries()", field.entries(), 0);
        field.run(1);
        check.dueUnit("it does not count", field, 0, 0, 20, 0);
        LockstepField last = Scene.begun(0, 63);
        last.command(0, 0, Scene.GO, 7);
        last.command(0, 0, Scene.GO, 56);
        check.due("forget(1), the last one", last.forget(1), true);
        last.run(1);
        check.dueUnit("the one before it counts", last, 0, 1, 20, Scene.go(7));
    }

    private static void forgetAnEntryPlayed(Check check) {
        LockstepField field = Scene.begun(0, 63);
        field.command(0, 0, Scene.GO, 7);
        field.run(2);
        int number = field.number(1);
        check.sentence(FORGET, "Entry k (of a tick played, too)");
        check.due("forget(0)", field.forget(0), true);
        check.due("entries()", field.entries(), 0);
        check.sentence(FORGET, "what was played stays: true");
        check.dueUnit("the unit", field, 0, 2, 20, Scene.go(7));
        check.duePath("the unit", field, 0, 3, 4, 5, 6, 7);
        check.due("the number", field.number(1), number);
        check.due("the play goes on", field.run(1), 3);
        check.due("tile(0)", field.tile(0), 3);
    }

    /** Of each entry its tick, its unit, its kind and its number move up together. */
    private static void numberedAnew(Check check) {
        check.sentence(FORGET, "(those behind are numbered anew)");
        LockstepField field = Scene.begun(0, 63, 56);
        field.command(0, 0, Scene.GO, 7);
        field.command(1, 1, Scene.GO, 60);
        field.command(0, 2, Scene.FIGHT, 1);
        field.command(1, 0, Scene.STOP, 9);
        check.due("forget(0)", field.forget(0), true);
        check.due("entries()", field.entries(), 3);
        check.due("the next number", field.command(1, 0, Scene.GO, 8), 3);
        check.due("forget(2), the STOP", field.forget(2), true);
        field.run(1);
        check.dueUnit("0 in tick 0", field, 0, 0, 20, 0);
        check.dueUnit("1 in tick 0", field, 1, 63, 20, 0);
        check.dueUnit("2 in tick 0", field, 2, 57, 20, Scene.fight(1));
        field.run(1);
        check.dueUnit("0 in tick 1", field, 0, 8, 20, 0);
        check.dueUnit("1 in tick 1", field, 1, 62, 20, Scene.go(60));
        LockstepField full = fullLog();
        check.due("forget(0) of 24", full.forget(0), true);
        check.due("no entry 23 more", full.forget(23), false);
        check.due("forget(22)", full.forget(22), true);
        full.run(2);
        check.due("the last one left counted", full.order(2), Scene.go(32));
    }

    private static void forgetNone(Check check) {
        check.sentence(FORGET, "false when there is none");
        Twins empty = new Twins(check, () -> Scene.begun(0, 63));
        Twins before = new Twins(check, () -> Scene.set(0, 63));
        Twins seven = new Twins(check, Scene::midway);
        Twins full = new Twins(check, LogTest::fullLog);
        for (int k : new int[] {-1, 24, 25, Scene.MIN, Scene.MAX}) {
            empty.refused("empty log, forget(" + k + ")", field -> field.forget(k));
            before.refused("before begin, forget(" + k + ")", field -> field.forget(k));
            seven.refused("seven entries, forget(" + k + ")", field -> field.forget(k));
            full.refused("full log, forget(" + k + ")", field -> field.forget(k));
        }
        empty.refused("empty log, forget(0)", field -> field.forget(0));
        before.refused("before begin, forget(0)", field -> field.forget(0));
        seven.refused("seven entries, forget(7)", field -> field.forget(7));
    }

    private static void countOfEntries(Check check) {
        check.sentence(ENTRIES, "How many entries the log has.");
        LockstepField field = Scene.set(0, 63);
        check.due("before begin", field.entries(), 0);
        field.command(0, 0, Scene.GO, 5);
        check.due("a command too early", field.entries(), 0);
        field.begin();
        for (int k = 1; k <= 24; k++) {
            field.command(k, 0, Scene.GO, 5);
            check.due(k + " commands", field.entries(), k);
        }
        field.command(25, 0, Scene.GO, 5);
        check.due("a command too many", field.entries(), 24);
        field.run(20);
        field.replay();
        check.due("played", field.entries(), 24);
        for (int k = 23; k >= 0; k--) {
            field.forget(k / 2);
            check.due("forgotten to " + k, field.entries(), k);
        }
        field.forget(0);
        check.due("one too many forgotten", field.entries(), 0);
    }
}
