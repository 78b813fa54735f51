/** Points 3 and 4 of a tick: the units strike, and those that may get a hit point again. */
public final class BlowsTest {
    private static final String THREE = "Tick, point 3";
    private static final String FOUR = "Tick, point 4";

    public static void main(String[] args) {
        Check check = new Check();
        striking(check);
        losing(check);
        resting(check);
        check.end();
    }

    private static void striking(Check check) {
        theDeadStrikeNoMore(check);
        onlyThoseToFight(check);
        onlyTheOneToFight(check);
        whereTheyStandThen(check);
    }

    private static void losing(Check check) {
        threeForEach(check);
        zeroAtLeast(check);
        allAtOnce(check);
        deadThen(check);
    }

    private static void resting(Check check) {
        everyFourthTick(check);
        noRestForTheDead(check);
        noRestWithAnOrder(check);
        restInTheTickThatEndsAnOrder(check);
        noRestWhenHurt(check);
        noMoreThanTwenty(check);
    }

    private static void theDeadStrikeNoMore(Check check) {
        check.sentence(THREE, "Each unit that is not dead");
        LockstepField field = Scene.begun(0, 1, 9);
        field.command(0, 0, Scene.FIGHT, 1);
        field.command(0, 1, Scene.FIGHT, 0);
        field.command(0, 2, Scene.FIGHT, 1);
        field.run(4);
        check.due("dead in tick 3", field.points(1), 0);
        check.due("struck in tick 3 still", field.points(0), 8);
        field.run(3);
        check.due("not struck after it", field.points(0), 8);
    }

    private static void onlyThoseToFight(Check check) {
        check.sentence(THREE, "is to FIGHT");
        LockstepField field = Scene.begun(0, 1);
        field.command(1, 0, Scene.GO, 1);
        field.command(2, 0, Scene.FIGHT, 1);
        field.command(3, 0, Scene.STOP, 1);
        // Struck in tick 2 alone; in tick 3 it gets one again.
        int[] points = {20, 20, 17, 18};
        for (int tick = 0; tick < points.length; tick++) {
            field.run(1);
            check.due("tick " + tick, field.points(1), points[tick]);
            check.due("not struck back in tick " + tick, field.points(0), 20);
        }
    }

    private static void onlyTheOneToFight(Check check) {
        check.sentence(THREE, "and stands at the distance 1 of the unit to fight");
        LockstepField field = Scene.begun(27, 19, 28, 35, 26);
        field.command(0, 0, Scene.FIGHT, 3);
        field.run(1);
        int[] points = {20, 20, 20, 17, 20};
        for (int u = 0; u < points.length; u++) {
            check.due("points(" + u + ")", field.points(u), points[u]);
        }
        LockstepField far = Scene.begun(0, 2, 1, 8);
        far.command(0, 0, Scene.FIGHT, 1);
        far.run(2);
        check.dueUnit("waits at the distance 2", far, 0, 0, 20, Scene.fight(1));
        check.due("not struck", far.points(1), 20);
        check.due("who stands between is not struck", far.points(2), 20);
    }

    private static void whereTheyStandThen(Check check) {
        check.sentence(THREE, "and stands at the distance 1 of the unit to fight");
        LockstepField arriving = Scene.begun(0, 2);
        arriving.command(0, 0, Scene.FIGHT, 1);
        arriving.run(1);
        check.due("it has come beside in this tick", arriving.tile(0), 1);
        check.due("struck in the same tick", arriving.points(1), 17);
        LockstepField fleeing = Scene.begun(0, 1);
        fleeing.command(0, 0, Scene.FIGHT, 1);
        fleeing.command(0, 1, Scene.GO, 7);
        fleeing.run(1);
        check.due("gone before the blow", fleeing.points(1), 20);
        LockstepField caught = Scene.begun(1, 0);
        caught.command(0, 0, Scene.GO, 7);
        caught.command(0, 1, Scene.FIGHT, 0);
        caught.run(1);
        check.due("it goes, the other one goes behind it", caught.tile(1), 1);
        check.due("and strikes", caught.points(0), 17);
    }

    private static void threeForEach(Check check) {
        check.sentence(THREE, "that loses 3 hit points for each such");
        for (int strikers = 1; strikers <= 4; strikers++) {
            LockstepField field = Scene.begun(27, 19, 28, 35, 26);
            for (int u = 1; u <= strikers; u++) {
                field.command(0, u, Scene.FIGHT, 0);
            }
            field.run(1);
            check.due(strikers + " strike", field.points(0), 20 - 3 * strikers);
            for (int u = 1; u < 5; u++) {
                check.due("points(" + u + ")", field.points(u), 20);
            }
        }
        LockstepField own = new LockstepField();
        own.unit(1, 0);
        own.unit(1, 1);
        own.begin();
        own.command(0, 0, Scene.FIGHT, 1);
        own.run(1);
        check.due("one of its own side, too", own.points(1), 17);
    }

    private static void zeroAtLeast(Check check) {
        check.sentence(THREE, "(0 at least)");
        LockstepField field = Scene.begun(0, 1);
        field.command(0, 0, Scene.FIGHT, 1);
        int[] points = {17, 14, 11, 8, 5, 2, 0, 0};
        for (int tick = 0; tick < points.length; tick++) {
            field.run(1);
            check.due("struck in tick " + tick, field.points(1), points[tick]);
        }
        LockstepField four = Scene.begun(27, 19, 28, 35, 26);
        for (int u = 1; u < 5; u++) {
            four.command(0, u, Scene.FIGHT, 0);
        }
        four.run(2);
        check.due("8 less 12", four.points(0), 0);
        check.due("its number", four.number(1), TickNumber.of(TickNumber.dead(), striker(19), striker(28),
            striker(35), striker(26)));
    }

    private static int[] striker(int tile) {
        return TickNumber.unit(20, tile, 0, Scene.FIGHT);
    }

    private static void allAtOnce(Check check) {
        check.sentence(THREE, "all at once");
        LockstepField two = Scene.begun(0, 8);
        two.command(0, 0, Scene.FIGHT, 1);
        two.command(0, 1, Scene.FIGHT, 0);
        two.run(6);
        check.due("points(0)", two.points(0), 2);
        check.due("points(1)", two.points(1), 2);
        two.run(1);
        check.dueUnit("both", two, 0, Scene.BAD, 0, 0);
        check.dueUnit("both", two, 1, Scene.BAD, 0, 0);
        LockstepField ring = Scene.begun(0, 1, 9, 8);
        for (int u = 0; u < 4; u++) {
            ring.command(0, u, Scene.FIGHT, (u + 1) % 4);
        }
        ring.run(7);
        for (int u = 0; u < 4; u++) {
            check.dueUnit("each the next one", ring, u, Scene.BAD, 0, 0);
        }
    }

    private static void deadThen(Check check) {
        check.sentence(THREE, "those with 0 are dead then");
        LockstepField field = Scene.begun(0, 1, 2);
        field.command(0, 0, Scene.FIGHT, 1);
        field.command(0, 1, Scene.GO, 2);
        field.run(6);
        check.dueUnit("not with 2", field, 1, 1, 2, Scene.go(2));
        field.run(1);
        check.dueUnit("dead", field, 1, Scene.BAD, 0, 0);
        check.duePath("dead", field, 1);
        field.command(7, 2, Scene.GO, 1);
        field.run(1);
        check.due("its tile is free", field.tile(2), 1);
    }

    private static void everyFourthTick(Check check) {
        check.sentence(FOUR, "If t % 4 is 3");
        LockstepField field = Scene.begun(0, 1);
        field.command(0, 0, Scene.FIGHT, 1);
        field.command(2, 0, Scene.STOP, 0);
        int[] points = {17, 14, 14, 15, 15, 15, 15, 16, 16, 16, 16, 17, 17, 17, 17, 18};
        for (int tick = 0; tick < points.length; tick++) {
            field.run(1);
            check.due("points in tick " + tick, field.points(1), points[tick]);
        }
    }

    private static void noRestForTheDead(Check check) {
        check.sentence(FOUR, "each unit that is not dead");
        LockstepField field = Scene.begun(0, 1);
        field.command(0, 0, Scene.FIGHT, 1);
        field.run(7);
        check.due("dead in tick 6", field.points(1), 0);
        for (int tick = 7; tick < 12; tick++) {
            field.run(1);
            check.dueUnit("tick " + tick, field, 1, Scene.BAD, 0, 0);
        }
    }

    private static void noRestWithAnOrder(Check check) {
        check.sentence(FOUR, "has no order");
        LockstepField going = Scene.begun(0, 1, 2);
        going.command(0, 0, Scene.FIGHT, 1);
        going.command(1, 0, Scene.STOP, 0);
        going.command(1, 1, Scene.GO, 2);
        going.command(8, 1, Scene.STOP, 0);
        going.run(8);
        check.due("to GO in ticks 3 and 7", going.points(1), 17);
        going.run(4);
        check.due("no order in tick 11", going.points(1), 18);
        // Unit 0 is struck in tick 0 alone, and kills unit 1 in tick 3: its order ends with tick 4.
        LockstepField fighting = Scene.begun(0, 1, 9);
        fighting.command(0, 0, Scene.FIGHT, 1);
        fighting.command(0, 1, Scene.FIGHT, 0);
        fighting.command(0, 2, Scene.FIGHT, 1);
        fighting.command(1, 1, Scene.STOP, 0);
        fighting.run(4);
        check.due("unit 1 is dead", fighting.points(1), 0);
        check.due("to FIGHT in tick 3", fighting.points(0), 17);
        fighting.run(4);
        check.due("no order in tick 7", fighting.points(0), 18);
    }

    private static void restInTheTickThatEndsAnOrder(Check check) {
        check.sentence(FOUR, "has no order");
        LockstepField field = Scene.begun(0, 1);
        field.command(0, 0, Scene.FIGHT, 1);
        field.command(1, 0, Scene.STOP, 0);
        field.command(2, 1, Scene.GO, 3);
        field.run(4);
        check.dueUnit("there in tick 3, with no order then", field, 1, 3, 18, 0);
        field.command(7, 1, Scene.GO, 3);
        field.run(4);
        check.dueUnit("to GO to its own tile in tick 7", field, 1, 3, 19, 0);
    }

    private static void noRestWhenHurt(Check check) {
        check.sentence(FOUR, "and has lost none in this tick");
        LockstepField field = Scene.begun(0, 1);
        field.command(2, 0, Scene.FIGHT, 1);
        field.command(4, 0, Scene.STOP, 0);
        field.command(6, 0, Scene.FIGHT, 1);
        field.command(7, 0, Scene.STOP, 0);
        field.run(3);
        check.due("tick 2", field.points(1), 17);
        field.run(1);
        check.due("struck in tick 3", field.points(1), 14);
        field.run(3);
        check.due("struck in tick 6", field.points(1), 11);
        field.run(1);
        check.due("not struck in tick 7", field.points(1), 12);
    }

    private static void noMoreThanTwenty(Check check) {
        check.sentence(FOUR, "gets one hit point, if it has fewer than 20");
        LockstepField field = Scene.begun(0, 1);
        field.command(0, 0, Scene.FIGHT, 1);
        field.command(1, 0, Scene.STOP, 0);
        int[] points = {18, 19, 20, 20, 20};
        for (int i = 0; i < points.length; i++) {
            field.run(4);
            check.due("points behind tick " + (4 * i + 3), field.points(1), points[i]);
            check.due("never struck", field.points(0), 20);
        }
    }
}
