/** Promises 5, 6 and 14: command, forget, entries. */
public final class LogTest {
    private static final int MIN = Integer.MIN_VALUE;
    private static final int MAX = Integer.MAX_VALUE;

    public static void main(String[] args) {
        Check check = new Check();
        numbersOfEntries(check);
        badCommands(check);
        earlyCommands(check);
        fullLog(check);
        orderOfRefusals(check);
        deadAndOwnUnits(check);
        forget(check);
        forgetWhatWasPlayed(check);
        forgetKeepsTheRest(check);
        check.end();
    }

    private static LockstepField begunField(int... tiles) {
        LockstepField field = new LockstepField();
        for (int u = 0; u < tiles.length; u++) {
            field.unit(u % 2, tiles[u]);
        }
        field.begin();
        return field;
    }

    private static void numbersOfEntries(Check check) {
        LockstepField field = begunField(0, 63);
        check.due("first", field.command(5, 0, 1, 9), 0);
        check.due("earlier tick comes behind", field.command(0, 1, 2, 0), 1);
        check.due("stop", field.command(MAX, 0, 0, 0), 2);
        check.due("entries()", field.entries(), 3);
        check.due("the same once more", field.command(5, 0, 1, 9), 3);
        check.due("go to tile 0", field.command(5, 1, 1, 0), 4);
        check.due("go to tile 63", field.command(5, 0, 1, 63), 5);
        check.due("stop with any number", field.command(5, 0, 0, MIN), 6);
        check.due("stop with any number", field.command(5, 0, 0, MAX), 7);
        check.due("entries()", field.entries(), 8);
        LockstepField walled = new LockstepField();
        walled.unit(0, 0);
        walled.wall(9, true);
        walled.begin();
        check.due("go to a wall", walled.command(0, 0, 1, 9), 0);
    }

    private static void badCommands(Check check) {
        LockstepField field = begunField(0, 63);
        for (int unit : new int[] {-1, 2, 8, MIN, MAX}) {
            for (int kind = 0; kind < 3; kind++) {
                check.due("unit " + unit, field.command(0, unit, kind, 1), LockstepField.BAD);
            }
        }
        for (int kind : new int[] {-1, 3, MIN, MAX}) {
            check.due("kind " + kind, field.command(0, 0, kind, 1), LockstepField.BAD);
        }
        for (int tile : new int[] {-1, 64, MIN, MAX}) {
            check.due("go to " + tile, field.command(0, 0, 1, tile), LockstepField.BAD);
        }
        for (int other : new int[] {-1, 2, 8, 63, MIN, MAX}) {
            check.due("fight " + other, field.command(0, 0, 2, other), LockstepField.BAD);
        }
        check.due("0 fights itself", field.command(0, 0, 2, 0), LockstepField.BAD);
        check.due("1 fights itself", field.command(0, 1, 2, 1), LockstepField.BAD);
        check.due("entries()", field.entries(), 0);
    }

    private static void earlyCommands(Check check) {
        LockstepField field = new LockstepField();
        field.unit(0, 0);
        check.due("before begin", field.command(0, 0, 1, 9), LockstepField.EARLY);
        check.due("before begin, no such unit", field.command(0, 1, 1, 9), LockstepField.BAD);
        field.begin();
        check.due("entries()", field.entries(), 0);
        check.due("tick -1", field.command(-1, 0, 1, 9), LockstepField.EARLY);
        check.due("tick MIN", field.command(MIN, 0, 1, 9), LockstepField.EARLY);
        check.due("tick 0", field.command(0, 0, 1, 9), 0);
        field.run(3);
        check.due("a tick before the last", field.command(1, 0, 1, 9), LockstepField.EARLY);
        check.due("the last tick", field.command(2, 0, 1, 9), LockstepField.EARLY);
        check.due("the next tick", field.command(3, 0, 1, 9), 1);
        check.due("a tick that can't come", field.command(200, 0, 1, 9), 2);
        check.due("entries()", field.entries(), 3);
    }

    private static void fullLog(Check check) {
        LockstepField field = begunField(0, 63);
        for (int k = 0; k < 24; k++) {
            check.due("entry " + k, field.command(1, 0, 1, 10 + k), k);
        }
        check.due("no room", field.command(1, 0, 1, 5), LockstepField.FULL);
        check.due("entries()", field.entries(), 24);
        field.run(2);
        check.due("played entries stay", field.entries(), 24);
        check.due("no room still", field.command(2, 0, 1, 5), LockstepField.FULL);
        check.due("the last entry counted", field.order(0), 1 + 4 * 33);
        check.due("forget(23)", field.forget(23), true);
        check.due("room again", field.command(2, 0, 1, 5), 23);
    }

    private static void orderOfRefusals(Check check) {
        LockstepField field = begunField(0, 63);
        field.run(1);
        for (int k = 0; k < 24; k++) {
            field.command(5, 0, 0, 0);
        }
        check.due("bad before early and full", field.command(0, 2, 0, 0), LockstepField.BAD);
        check.due("bad kind before early and full", field.command(0, 0, 3, 0), LockstepField.BAD);
        check.due("bad tile before early and full", field.command(0, 0, 1, 64), LockstepField.BAD);
        check.due("early before full", field.command(0, 0, 0, 0), LockstepField.EARLY);
        check.due("full", field.command(1, 0, 0, 0), LockstepField.FULL);
    }

    private static void deadAndOwnUnits(Check check) {
        LockstepField field = new LockstepField();
        field.unit(0, 0);
        field.unit(0, 1);
        field.begin();
        check.due("fight one of its side", field.command(0, 0, 2, 1), 0);
        field.run(8);
        check.due("it is dead", field.points(1), 0);
        check.due("fight a dead one", field.command(8, 0, 2, 1), 1);
        check.due("tell a dead one", field.command(8, 1, 1, 5), 2);
        check.due("tell a dead one to fight", field.command(8, 1, 2, 0), 3);
        field.run(1);
        check.dueUnit("the dead one does nothing", field, 1, LockstepField.BAD, 0, 0);
        check.dueUnit("none to fight", field, 0, 0, 20, 0);
    }

    private static void forget(Check check) {
        LockstepField field = begunField(0, 63);
        check.due("empty log", field.forget(0), false);
        field.command(0, 0, 1, 1);
        field.command(0, 0, 1, 2);
        field.command(0, 0, 1, 3);
        for (int k : new int[] {-1, 3, 24, MIN, MAX}) {
            check.due("forget(" + k + ")", field.forget(k), false);
        }
        check.due("entries()", field.entries(), 3);
        check.due("forget(2)", field.forget(2), true);
        check.due("entries()", field.entries(), 2);
        check.due("forget(2) again", field.forget(2), false);
        field.run(1);
        check.due("the last one left counted", field.order(0), 1 + 4 * 2);
    }

    private static void forgetWhatWasPlayed(Check check) {
        LockstepField field = begunField(0, 63);
        field.command(0, 0, 1, 7);
        field.run(2);
        int number = field.number(1);
        check.due("forget(0)", field.forget(0), true);
        check.dueUnit("what was played stays", field, 0, 2, 20, 1 + 4 * 7);
        check.duePath("what was played stays", field, 0, 3, 4, 5, 6, 7);
        check.due("its number stays", field.number(1), number);
        check.due("the play goes on", field.run(1), 3);
        check.due("tile(0)", field.tile(0), 3);
    }

    private static void forgetKeepsTheRest(Check check) {
        LockstepField field = begunField(0, 63, 56);
        field.command(0, 0, 1, 7);
        field.command(1, 1, 1, 60);
        field.command(0, 2, 2, 1);
        field.command(1, 0, 0, 9);
        check.due("forget(0)", field.forget(0), true);
        check.due("entries()", field.entries(), 3);
        check.due("the next number", field.command(1, 0, 1, 8), 3);
        check.due("forget(2), the stop", field.forget(2), true);
        field.run(1);
        check.dueUnit("0 in tick 0", field, 0, 0, 20, 0);
        check.dueUnit("1 in tick 0", field, 1, 63, 20, 0);
        check.dueUnit("2 in tick 0", field, 2, 57, 20, 2 + 4 * 1);
        field.run(1);
        check.dueUnit("0 in tick 1", field, 0, 8, 20, 0);
        check.dueUnit("1 in tick 1", field, 1, 62, 20, 1 + 4 * 60);
    }
}
