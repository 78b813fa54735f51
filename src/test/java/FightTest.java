/** Promises 11 and 16: points, winner; points 3 and 4 of the tick. */
public final class FightTest {
    private static final int BAD = LockstepField.BAD;

    public static void main(String[] args) {
        Check check = new Check();
        pointsOfNone(check);
        blows(check);
        manyOnOne(check);
        killingEachOther(check);
        reach(check);
        strikeOnArrival(check);
        theDead(check);
        theDeadTakeNoTile(check);
        resting(check);
        noRestWhenHurt(check);
        noRestWithAnOrder(check);
        restOnArrival(check);
        winnerBeforeThePlay(check);
        winnerAfterDeath(check);
        check.end();
    }

    /** A field on which the play has begun: units of sides 0, 1, 0, 1, .. */
    private static LockstepField begun(int... tiles) {
        LockstepField field = new LockstepField();
        for (int u = 0; u < tiles.length; u++) {
            field.unit(u % 2, tiles[u]);
        }
        field.begin();
        return field;
    }

    private static void pointsOfNone(Check check) {
        LockstepField field = begun(0, 9);
        for (int unit : new int[] {-1, 2, 8, Integer.MIN_VALUE, Integer.MAX_VALUE}) {
            check.due("points(" + unit + ")", field.points(unit), BAD);
        }
        check.due("points(0)", field.points(0), 20);
        check.due("points(1)", field.points(1), 20);
    }

    private static void blows(Check check) {
        LockstepField field = begun(0, 1);
        field.command(0, 0, 2, 1);
        int[] points = {17, 14, 11, 8, 5, 2, 0, 0};
        for (int tick = 0; tick < points.length; tick++) {
            field.run(1);
            check.due("struck in tick " + tick, field.points(1), points[tick]);
            check.due("not struck back", field.points(0), 20);
        }
    }

    private static void manyOnOne(Check check) {
        LockstepField field = begun(27, 19, 28, 35, 26);
        for (int u = 1; u < 5; u++) {
            field.command(0, u, 2, 0);
        }
        field.run(1);
        check.due("four blows", field.points(0), 8);
        field.run(1);
        check.due("no less than 0", field.points(0), 0);
        check.due("dead", field.tile(0), BAD);
        for (int u = 1; u < 5; u++) {
            check.due("points(" + u + ")", field.points(u), 20);
        }
    }

    private static void killingEachOther(Check check) {
        LockstepField field = begun(0, 8);
        field.command(0, 0, 2, 1);
        field.command(0, 1, 2, 0);
        field.run(6);
        check.due("points(0)", field.points(0), 2);
        check.due("points(1)", field.points(1), 2);
        field.run(1);
        check.dueUnit("both at once", field, 0, BAD, 0, 0);
        check.dueUnit("both at once", field, 1, BAD, 0, 0);
        check.due("winner()", field.winner(), 3);
    }

    /** Distance 1 is up, right, down, left; not over a corner, and not from one row's end to the next. */
    private static void reach(Check check) {
        for (int other : new int[] {19, 28, 35, 26}) {
            LockstepField field = begun(27, other);
            field.command(0, 0, 2, 1);
            field.run(1);
            check.dueUnit("beside", field, 0, 27, 20, 6);
            check.due("struck", field.points(1), 17);
        }
        LockstepField corner = begun(27, 36);
        corner.command(0, 0, 2, 1);
        corner.command(0, 1, 1, 37);
        corner.run(1);
        check.due("goes nearer", corner.tile(0), 28);
        check.due("the other goes off", corner.tile(1), 37);
        check.due("not struck over a corner", corner.points(1), 20);
        LockstepField rows = begun(7, 8);
        rows.command(0, 0, 2, 1);
        rows.run(1);
        check.due("7 is not beside 8", rows.tile(0), 15);
        check.due("not struck", rows.points(1), 20);
    }

    private static void strikeOnArrival(Check check) {
        LockstepField field = begun(0, 2);
        field.command(0, 0, 2, 1);
        field.run(1);
        check.due("tile(0)", field.tile(0), 1);
        check.due("struck in the same tick", field.points(1), 17);
        LockstepField fleeing = begun(0, 1);
        fleeing.command(0, 0, 2, 1);
        fleeing.command(0, 1, 1, 7);
        fleeing.run(1);
        check.due("gone before the blow", fleeing.points(1), 20);
        LockstepField going = begun(0, 1);
        going.command(0, 0, 1, 8);
        going.run(1);
        check.due("no blow without a fight", going.points(1), 20);
    }

    private static void theDead(Check check) {
        LockstepField field = begun(0, 1, 2);
        field.command(0, 0, 2, 1);
        field.command(0, 1, 1, 2);
        field.run(6);
        check.duePath("it waits", field, 1, 2);
        field.run(1);
        check.dueUnit("dead", field, 1, BAD, 0, 0);
        check.duePath("dead", field, 1);
        field.command(7, 2, 1, 1);
        field.command(7, 1, 1, 5);
        field.run(1);
        check.due("its tile is free", field.tile(2), 1);
        check.dueUnit("its orders are not taken", field, 1, BAD, 0, 0);
        check.dueUnit("none to fight", field, 0, 0, 20, 0);
        field.run(20);
        check.due("no rest for the dead", field.points(1), 0);
    }

    private static void theDeadTakeNoTile(Check check) {
        LockstepField field = begun(1, 2, 55, 62);
        field.command(0, 0, 2, 1);
        field.run(7);
        check.due("dead", field.tile(1), BAD);
        field.command(7, 0, 1, 0);
        field.command(7, 2, 1, 63);
        field.run(1);
        check.due("tile 0 is free", field.tile(0), 0);
        check.due("tile 63 is free", field.tile(2), 63);
    }

    private static void resting(Check check) {
        LockstepField field = begun(0, 1);
        field.command(0, 0, 2, 1);
        field.command(1, 0, 0, 0);
        int[] points = {17, 17, 17, 18, 18, 18, 18, 19, 19, 19, 19, 20, 20, 20, 20, 20};
        for (int tick = 0; tick < points.length; tick++) {
            field.run(1);
            check.due("points in tick " + tick, field.points(1), points[tick]);
            check.due("never more than 20", field.points(0), 20);
        }
    }

    private static void noRestWhenHurt(Check check) {
        LockstepField field = begun(0, 1);
        field.command(2, 0, 2, 1);
        field.command(4, 0, 0, 0);
        field.run(3);
        check.due("tick 2", field.points(1), 17);
        field.run(1);
        check.due("struck in tick 3", field.points(1), 14);
        field.run(3);
        check.due("tick 6", field.points(1), 14);
        field.run(1);
        check.due("not struck in tick 7", field.points(1), 15);
    }

    private static void noRestWithAnOrder(Check check) {
        LockstepField field = begun(0, 1, 2);
        field.command(0, 0, 2, 1);
        field.command(1, 0, 0, 0);
        field.command(1, 1, 1, 2);
        field.command(8, 1, 0, 0);
        field.run(8);
        check.due("no rest in ticks 3 and 7", field.points(1), 17);
        field.run(4);
        check.due("rest in tick 11", field.points(1), 18);
    }

    private static void restOnArrival(Check check) {
        LockstepField field = begun(0, 1);
        field.command(0, 0, 2, 1);
        field.command(1, 0, 0, 0);
        field.command(2, 1, 1, 3);
        field.run(4);
        check.dueUnit("there in tick 3, with no order then", field, 1, 3, 18, 0);
    }

    private static void winnerBeforeThePlay(Check check) {
        LockstepField zero = new LockstepField();
        check.due("no units", zero.winner(), 3);
        zero.unit(0, 5);
        check.due("side 0 alone", zero.winner(), 0);
        zero.unit(1, 6);
        check.due("both", zero.winner(), 2);
        LockstepField one = new LockstepField();
        one.unit(1, 5);
        check.due("side 1 alone", one.winner(), 1);
        one.begin();
        one.run(1);
        check.due("side 1 alone, in play", one.winner(), 1);
    }

    private static void winnerAfterDeath(Check check) {
        LockstepField field = begun(0, 1, 9, 63);
        field.command(0, 0, 2, 1);
        field.run(7);
        check.due("one of side 1 is left", field.winner(), 2);
        field.command(7, 3, 2, 2);
        field.command(7, 2, 2, 3);
        field.command(7, 0, 2, 3);
        field.run(20);
        check.due("side 0 has won", field.winner(), 0);
        LockstepField own = new LockstepField();
        own.unit(0, 0);
        own.unit(1, 1);
        own.begin();
        own.command(0, 1, 2, 0);
        own.run(7);
        check.due("side 1 has won", own.winner(), 1);
    }
}
