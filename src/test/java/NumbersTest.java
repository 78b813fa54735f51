import java.math.BigInteger;

/** Point 5 of a tick: its number. */
public final class NumbersTest {
    private static final String FIVE = "Tick, point 5";

    public static void main(String[] args) {
        Check check = new Check();
        fromSeventeen(check);
        pointsAndTile(check);
        unitsInTurn(check);
        theDeadCountNoTile(check);
        patienceAndOrder(check);
        orderAlone(check);
        atTheEndOfTheTick(check);
        wrapping(check);
        manyThingsAtOnce(check);
        check.end();
    }

    private static void fromSeventeen(Check check) {
        check.sentence(FIVE, "from 17 on");
        LockstepField field = Scene.begun();
        field.run(20);
        check.due("no units, tick 0", field.number(0), 17);
        check.due("no units, tick 19", field.number(19), 17);
    }

    private static void pointsAndTile(Check check) {
        check.sentence(FIVE, "31 times the one before, + 64 * its hit points + its tile");
        LockstepField first = Scene.begun(0);
        first.run(1);
        check.due("on tile 0", first.number(0), 31 * (31 * 17 + 64 * 20));
        LockstepField last = Scene.begun(63);
        last.run(1);
        check.due("on tile 63", last.number(0), 31 * (31 * 17 + 64 * 20 + 63));
        LockstepField hurt = Scene.begun(10, 11);
        hurt.command(0, 0, Scene.FIGHT, 1);
        hurt.run(1);
        check.due("with 17 points", hurt.number(0),
            31 * (31 * (31 * (31 * 17 + 64 * 20 + 10) + 2) + 64 * 17 + 11));
    }

    private static void unitsInTurn(Check check) {
        check.sentence(FIVE, "for each unit in turn");
        LockstepField field = Scene.begun(5, 3);
        field.run(1);
        check.due("5, then 3", field.number(0), 31 * (31 * (31 * (31 * 17 + 1285)) + 1283));
        LockstepField turned = Scene.begun(3, 5);
        turned.run(1);
        check.due("3, then 5", turned.number(0), 31 * (31 * (31 * (31 * 17 + 1283)) + 1285));
    }

    private static void theDeadCountNoTile(Check check) {
        check.sentence(FIVE, "(0 if it is dead)");
        LockstepField field = Scene.begun(62, 63);
        field.command(0, 0, Scene.FIGHT, 1);
        field.run(8);
        check.due("with 2 points", field.number(5), TickNumber.of(
            TickNumber.unit(20, 62, 0, Scene.FIGHT), TickNumber.unit(2, 63, 0, 0)));
        check.due("dead", field.number(6), 31 * 31 * (31 * (31 * 17 + 64 * 20 + 62) + 2));
        check.due("dead, and none to fight", field.number(7), 31 * 31 * 31 * (31 * 17 + 64 * 20 + 62));
    }

    private static void patienceAndOrder(Check check) {
        check.sentence(FIVE, "and then 31 times that, + 8 times its patience + its order");
        LockstepField field = Scene.begun(1, 0);
        field.command(0, 1, Scene.GO, 2);
        field.command(2, 1, Scene.FIGHT, 0);
        field.command(3, 1, Scene.STOP, 2);
        field.run(4);
        int before = 31 * (31 * (31 * (31 * 17 + 1281)) + 1280);
        check.due("to GO, patience 1", field.number(0), before + 8 + 1);
        check.due("to GO, patience 2", field.number(1), before + 16 + 1);
        check.due("to FIGHT, patience 0", field.number(2), TickNumber.of(
            TickNumber.unit(17, 1, 0, 0), TickNumber.unit(20, 0, 0, 2)));
        check.due("stopped", field.number(3), TickNumber.of(
            TickNumber.unit(18, 1, 0, 0), TickNumber.unit(20, 0, 0, 0)));
    }

    /** The order is 0, 1 or 2, and the tile or unit of it is no part of that. */
    private static void orderAlone(Check check) {
        check.sentence(FIVE, "+ its order");
        LockstepField far = Scene.begun(0, 63, 56);
        far.command(0, 0, Scene.GO, 7);
        far.command(1, 0, Scene.FIGHT, 1);
        far.run(2);
        check.due("GO to 7", far.number(0), TickNumber.of(
            TickNumber.unit(20, 1, 0, 1), TickNumber.unit(20, 63, 0, 0), TickNumber.unit(20, 56, 0, 0)));
        check.due("FIGHT unit 1", far.number(1), TickNumber.of(
            TickNumber.unit(20, 2, 0, 2), TickNumber.unit(20, 63, 0, 0), TickNumber.unit(20, 56, 0, 0)));
    }

    /** Behind point 4: a hit point that was got in the tick counts. */
    private static void atTheEndOfTheTick(Check check) {
        check.sentence(FIVE, "THE NUMBER of the tick");
        LockstepField field = Scene.begun(0, 1);
        field.command(0, 0, Scene.FIGHT, 1);
        field.command(1, 0, Scene.STOP, 0);
        field.run(4);
        int[] points = {17, 17, 17, 18};
        for (int tick = 0; tick < 4; tick++) {
            check.due("number(" + tick + ")", field.number(tick), TickNumber.of(
                TickNumber.unit(20, 0, 0, tick == 0 ? Scene.FIGHT : 0), TickNumber.unit(points[tick], 1, 0, 0)));
        }
    }

    private static void wrapping(Check check) {
        check.sentence(FIVE, "(wrapping)");
        int[][] units = new int[8][];
        LockstepField field = new LockstepField();
        for (int u = 0; u < 8; u++) {
            field.unit(u % 2, 63 - 7 * u);
            units[u] = TickNumber.unit(20, 63 - 7 * u, 0, 0);
        }
        field.begin();
        field.run(1);
        BigInteger whole = TickNumber.whole(units);
        check.due("the whole number is no int", whole.bitLength() > 32, true);
        check.due("eight units", field.number(0), whole.intValue());
        LockstepField three = Scene.begun(0, 1, 2);
        three.run(1);
        check.due("51771077870 less 12 times 2^32", three.number(0), 231_470_318);
        LockstepField four = Scene.begun(0, 1, 2, 3);
        four.run(1);
        check.due("49752005872843 less 11584 times 2^32", four.number(0), -895_284_021);
    }

    private static void manyThingsAtOnce(Check check) {
        check.sentence(FIVE, "THE NUMBER of the tick");
        LockstepField field = Scene.midway();
        check.due("on its way, waiting, standing, dead, struck", field.number(7), TickNumber.of(
            TickNumber.unit(20, 25, 0, Scene.GO), TickNumber.unit(20, 1, 2, Scene.GO), TickNumber.unit(20, 2, 0, 0),
            TickNumber.unit(20, 62, 0, 0), TickNumber.dead(), TickNumber.unit(20, 31, 0, 0),
            TickNumber.unit(18, 39, 0, 0), TickNumber.unit(20, 40, 0, 0)));
    }
}
