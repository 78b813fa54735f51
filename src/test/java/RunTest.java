/** Promises 7 and 9: run, number. */
public final class RunTest {
    private static final String RUN = "Promise 7";
    private static final String NUMBER = "Promise 9";
    private static final int[] NO_RUNS = {0, -1, 21, 200, -20, Scene.MIN, Scene.MAX};

    public static void main(String[] args) {
        Check check = new Check();
        runs(check);
        numbers(check);
        check.end();
    }

    private static void runs(Check check) {
        howManyWerePlayed(check);
        oneByOneIsTheSame(check);
        runOfNoNumber(check);
        runBeforeBegin(check);
        upToTheLastTick(check);
        runOfTooMany(check);
        runBehindTheLastTick(check);
    }

    private static void numbers(Check check) {
        numberOfATickPlayed(check);
        numberOfATickNotPlayed(check);
    }

    /** Unit 0 goes to and fro, 20 ticks each way; for the tick behind them unit 1 has an order. */
    private static LockstepField played(int runs) {
        LockstepField field = Scene.begun(0, 63);
        for (int i = 0; i < runs; i++) {
            field.command(20 * i, 0, Scene.GO, i % 2 == 0 ? 63 : 0);
            field.run(20);
        }
        field.command(20 * runs, 1, Scene.GO, 0);
        return field;
    }

    private static void howManyWerePlayed(Check check) {
        check.sentence(RUN, "n ticks are played: how many have been played then");
        LockstepField field = Scene.begun(0);
        field.command(0, 0, Scene.GO, 63);
        check.due("run(1)", field.run(1), 1);
        check.due("one step", field.tile(0), 1);
        check.due("run(2)", field.run(2), 3);
        check.due("three steps", field.tile(0), 3);
        check.due("run(20)", field.run(20), 23);
        check.due("there", field.tile(0), 63);
        check.due("run(19)", field.run(19), 42);
    }

    private static void oneByOneIsTheSame(Check check) {
        check.sentence(RUN, "n ticks are played");
        LockstepField single = Scene.begun(0, 63);
        LockstepField many = Scene.begun(0, 63);
        for (LockstepField field : new LockstepField[] {single, many}) {
            field.command(0, 0, Scene.FIGHT, 1);
            field.command(3, 1, Scene.FIGHT, 0);
        }
        for (int i = 0; i < 20; i++) {
            single.run(1);
        }
        many.run(20);
        for (int tick = 0; tick < 20; tick++) {
            check.due("number(" + tick + ")", single.number(tick), many.number(tick));
        }
    }

    private static void runOfNoNumber(Check check) {
        check.sentence(RUN, "BAD when n is not 1 .. 20");
        Twins fresh = new Twins(check, () -> played(0));
        Twins midway = new Twins(check, Scene::midway);
        for (int n : NO_RUNS) {
            fresh.unchanged("run(" + n + ") before tick 0", Scene.BAD, field -> field.run(n));
            midway.unchanged("run(" + n + ") before tick 8", Scene.BAD, field -> field.run(n));
        }
    }

    private static void runBeforeBegin(Check check) {
        check.sentence(RUN, "EARLY when the play has not begun");
        Twins twins = new Twins(check, () -> Scene.set(0, 63));
        twins.unchanged("run(1)", Scene.EARLY, field -> field.run(1));
        twins.unchanged("run(20)", Scene.EARLY, field -> field.run(20));
        for (int n : NO_RUNS) {
            twins.unchanged("BAD before EARLY, run(" + n + ")", Scene.BAD, field -> field.run(n));
        }
    }

    private static void upToTheLastTick(Check check) {
        check.sentence(RUN, "when there would be more than 200 (in all)");
        LockstepField exact = played(9);
        check.due("run(20) to 200", exact.run(20), 200);
        LockstepField single = played(9);
        check.due("run(19)", single.run(19), 199);
        check.due("a command for the last tick", single.command(199, 0, Scene.GO, 0), 10);
        check.due("number(199)", single.number(199), 0);
        check.due("before the last tick", single.tile(0), 63);
        check.due("run(1) to 200", single.run(1), 200);
        check.due("the last tick is played", single.tile(0), 55);
        check.due("its entry counted", single.order(0), Scene.go(0));
        check.due("number(199)", single.number(199), TickNumber.of(
            TickNumber.unit(20, 55, 0, Scene.GO), TickNumber.unit(20, 0, 0, 0)));
        check.due("replay()", single.replay(), -1);
    }

    private static void runOfTooMany(Check check) {
        check.sentence(RUN, "FULL, and nothing is played, when there would be more than 200 (in all)");
        for (int left = 1; left < 20; left++) {
            int most = left;
            Twins twins = new Twins(check, () -> {
                LockstepField field = played(9);
                field.run(20 - most);
                return field;
            });
            twins.unchanged(left + " left, one more", Scene.FULL, field -> field.run(most + 1));
            twins.unchanged(left + " left, run(20)", Scene.FULL, field -> field.run(20));
            twins.unchanged("BAD before FULL", Scene.BAD, field -> field.run(21));
            twins.unchanged("BAD before FULL", Scene.BAD, field -> field.run(0));
            twins.unchanged("BAD before FULL", Scene.BAD, field -> field.run(Scene.MAX));
        }
    }

    private static void runBehindTheLastTick(Check check) {
        check.sentence(RUN, "FULL, and nothing is played");
        Twins twins = new Twins(check, () -> played(10));
        twins.unchanged("run(1)", Scene.FULL, field -> field.run(1));
        twins.unchanged("run(20)", Scene.FULL, field -> field.run(20));
        twins.unchanged("BAD before FULL", Scene.BAD, field -> field.run(21));
        twins.unchanged("BAD before FULL", Scene.BAD, field -> field.run(0));
    }

    private static void numberOfATickPlayed(Check check) {
        check.sentence(NUMBER, "The number of a tick that was played");
        LockstepField field = Scene.begun(0);
        field.command(0, 0, Scene.GO, 3);
        field.run(2);
        field.run(2);
        int[] tiles = {1, 2, 3, 3};
        for (int tick = 0; tick < 4; tick++) {
            int order = tick < 2 ? Scene.GO : 0;
            check.due("number(" + tick + ")", field.number(tick),
                TickNumber.of(TickNumber.unit(20, tiles[tick], 0, order)));
        }
        for (int i = 0; i < 9; i++) {
            field.run(20);
        }
        field.run(16);
        check.due("number(0) stays", field.number(0), TickNumber.of(TickNumber.unit(20, 1, 0, Scene.GO)));
        check.due("number(199)", field.number(199), TickNumber.of(TickNumber.unit(20, 3, 0, 0)));
    }

    private static void numberOfATickNotPlayed(Check check) {
        check.sentence(NUMBER, "0 when it was not");
        LockstepField field = Scene.set(0, 63);
        int[] never = {-1, 200, 201, Scene.MIN, Scene.MAX};
        check.due("before begin, number(0)", field.number(0), 0);
        field.begin();
        check.due("before tick 0, number(0)", field.number(0), 0);
        for (int i = 1; i <= 10; i++) {
            check.due("before the run, number(" + (20 * i - 1) + ")", field.number(20 * i - 1), 0);
            field.run(20);
            check.due("the next tick, number(" + 20 * i + ")", field.number(20 * i), 0);
            for (int tick : never) {
                check.due("number(" + tick + ")", field.number(tick), 0);
            }
        }
    }
}
