/** Promises 7 and 9: run, number; point 5 of the tick. */
public final class RunTest {
    private static final int MIN = Integer.MIN_VALUE;
    private static final int MAX = Integer.MAX_VALUE;

    public static void main(String[] args) {
        Check check = new Check();
        refused(check);
        upToTheLastTick(check);
        numbersAsked(check);
        numbersOfStandingUnits(check);
        numbersWithPatience(check);
        patienceByEntry(check);
        patienceWithoutOrder(check);
        patienceBesideTheOneToFight(check);
        numbersOfTheDead(check);
        oneByOneIsTheSame(check);
        check.end();
    }

    /** The number of a tick by the document's words, for units given as points, tile, patience, order. */
    private static int numberOf(int[]... units) {
        long sum = 17;
        for (int[] unit : units) {
            sum = 31 * sum + 64 * unit[0] + unit[1];
            sum = 31 * sum + 8 * unit[2] + unit[3];
        }
        return (int) sum;
    }

    private static int[] unit(int points, int tile, int patience, int order) {
        return new int[] {points, tile, patience, order};
    }

    private static void refused(Check check) {
        LockstepField field = new LockstepField();
        check.due("before begin", field.run(1), LockstepField.EARLY);
        for (int n : new int[] {0, -1, 21, 200, MIN, MAX}) {
            check.due("before begin, run(" + n + ")", field.run(n), LockstepField.BAD);
        }
        field.begin();
        for (int n : new int[] {0, -1, 21, 200, MIN, MAX}) {
            check.due("run(" + n + ")", field.run(n), LockstepField.BAD);
        }
        check.due("nothing was played", field.number(0), 0);
        check.due("run(1)", field.run(1), 1);
        check.due("run(20)", field.run(20), 21);
    }

    private static void upToTheLastTick(Check check) {
        LockstepField field = new LockstepField();
        field.unit(0, 0);
        field.begin();
        for (int i = 1; i <= 9; i++) {
            check.due("run(20)", field.run(20), 20 * i);
        }
        field.command(180, 0, 1, 63);
        check.due("run(19)", field.run(19), 199);
        int tile = field.tile(0);
        check.due("run(2)", field.run(2), LockstepField.FULL);
        check.due("run(20)", field.run(20), LockstepField.FULL);
        check.due("run(21)", field.run(21), LockstepField.BAD);
        check.due("nothing was played", field.number(199), 0);
        check.due("nothing has moved", field.tile(0), tile);
        check.due("a command for the last tick", field.command(199, 0, 1, 0), 1);
        check.due("run(1)", field.run(1), 200);
        check.due("the last tick has moved it", field.tile(0), 55);
        check.due("the last tick's number", field.number(199), numberOf(unit(20, 55, 0, 1)));
        check.due("run(1)", field.run(1), LockstepField.FULL);
        check.due("replay()", field.replay(), -1);
    }

    private static void numbersAsked(Check check) {
        LockstepField field = new LockstepField();
        check.due("before begin", field.number(0), 0);
        field.begin();
        check.due("before tick 0", field.number(0), 0);
        field.run(2);
        check.due("no units: tick 0", field.number(0), 17);
        check.due("no units: tick 1", field.number(1), 17);
        for (int tick : new int[] {-1, 2, 199, 200, MIN, MAX}) {
            check.due("number(" + tick + ")", field.number(tick), 0);
        }
    }

    private static void numbersOfStandingUnits(Check check) {
        LockstepField field = new LockstepField();
        int[][] units = new int[8][];
        for (int u = 0; u < 8; u++) {
            field.unit(u % 2, 63 - 7 * u);
            units[u] = unit(20, 63 - 7 * u, 0, 0);
        }
        field.begin();
        field.run(1);
        check.due("eight units", field.number(0), numberOf(units));
        LockstepField one = new LockstepField();
        one.unit(1, 0);
        one.begin();
        one.run(1);
        check.due("one unit", one.number(0), 31 * (31 * 17 + 64 * 20));
    }

    /** A unit before a taken tile, with no other way: its patience goes 1, 2, 0, 1, .. */
    private static void numbersWithPatience(Check check) {
        LockstepField field = new LockstepField();
        field.wall(8, true);
        field.unit(0, 0);
        field.unit(1, 1);
        field.begin();
        field.command(0, 0, 1, 3);
        field.command(5, 1, 1, 2);
        field.run(8);
        int[] patience = {1, 2, 0, 1, 2};
        for (int tick = 0; tick < 5; tick++) {
            check.due("waiting in tick " + tick, field.number(tick),
                numberOf(unit(20, 0, patience[tick], 1), unit(20, 1, 0, 0)));
        }
        check.due("out of patience as the other goes", field.number(5),
            numberOf(unit(20, 0, 0, 1), unit(20, 2, 0, 0)));
        check.due("one step on", field.number(6), numberOf(unit(20, 1, 0, 1), unit(20, 2, 0, 0)));
        check.due("waiting again", field.number(7), numberOf(unit(20, 1, 1, 1), unit(20, 2, 0, 0)));
    }

    private static void patienceByEntry(Check check) {
        LockstepField field = new LockstepField();
        field.unit(0, 0);
        field.unit(1, 1);
        field.begin();
        field.command(0, 0, 1, 2);
        field.command(2, 0, 1, 2);
        field.run(3);
        check.due("two waits", field.number(1), numberOf(unit(20, 0, 2, 1), unit(20, 1, 0, 0)));
        check.due("an entry begins it anew", field.number(2), numberOf(unit(20, 0, 1, 1), unit(20, 1, 0, 0)));
        check.duePath("so no way round is looked for", field, 0, 1, 2);
    }

    /** The document says only that the order is none when the one to fight is dead: patience stays. */
    private static void patienceWithoutOrder(Check check) {
        LockstepField field = new LockstepField();
        field.wall(8, true);
        field.unit(0, 0);
        field.unit(0, 1);
        field.unit(1, 63);
        field.unit(0, 62);
        field.begin();
        field.command(0, 0, 2, 2);
        field.command(0, 3, 2, 2);
        field.run(8);
        int[] dead = unit(0, 0, 0, 0);
        check.due("waiting as it dies", field.number(6),
            numberOf(unit(20, 0, 1, 2), unit(20, 1, 0, 0), dead, unit(20, 62, 0, 2)));
        check.due("no order then", field.number(7),
            numberOf(unit(20, 0, 1, 0), unit(20, 1, 0, 0), dead, unit(20, 62, 0, 0)));
    }

    /** The document empties the path there, and says nothing of patience. */
    private static void patienceBesideTheOneToFight(Check check) {
        LockstepField field = new LockstepField();
        field.unit(0, 0);
        field.unit(0, 1);
        field.unit(1, 9);
        field.begin();
        field.command(0, 0, 2, 2);
        field.command(0, 2, 1, 8);
        field.run(2);
        check.due("it comes beside", field.number(0),
            numberOf(unit(20, 0, 1, 2), unit(20, 1, 0, 0), unit(17, 8, 0, 0)));
        check.due("beside it", field.number(1),
            numberOf(unit(20, 0, 1, 2), unit(20, 1, 0, 0), unit(14, 8, 0, 0)));
    }

    private static void numbersOfTheDead(Check check) {
        LockstepField field = new LockstepField();
        field.unit(0, 20);
        field.unit(1, 21);
        field.begin();
        field.command(0, 0, 2, 1);
        field.run(8);
        check.due("a blow", field.number(0), numberOf(unit(20, 20, 0, 2), unit(17, 21, 0, 0)));
        check.due("dead", field.number(6), numberOf(unit(20, 20, 0, 2), unit(0, 0, 0, 0)));
        check.due("no order more", field.number(7), numberOf(unit(20, 20, 0, 0), unit(0, 0, 0, 0)));
    }

    private static void oneByOneIsTheSame(Check check) {
        LockstepField single = new LockstepField();
        LockstepField many = new LockstepField();
        for (LockstepField field : new LockstepField[] {single, many}) {
            field.unit(0, 0);
            field.unit(1, 63);
            field.begin();
            field.command(0, 0, 2, 1);
            field.command(3, 1, 2, 0);
        }
        for (int i = 0; i < 20; i++) {
            single.run(1);
        }
        many.run(20);
        for (int tick = 0; tick < 20; tick++) {
            check.due("number(" + tick + ")", single.number(tick), many.number(tick));
        }
    }
}
