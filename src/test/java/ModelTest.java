import java.util.Random;

/** All promises: runs of calls by chance (from fixed seeds), each answer held against the model's. */
public final class ModelTest {
    private static final int RUNS = 1000;
    // With a look at 201 numbers behind them: no more than the 512 for which an object answers.
    private static final int CALLS = 311;
    private static final int[] ODD = {-1, 64, 8, 24, 200, Integer.MIN_VALUE, Integer.MAX_VALUE, 3};

    private final Check check = new Check();
    private final Random random;
    private final String name;
    private final LockstepField field = new LockstepField();
    private final Model model = new Model();
    // A small part of the field makes units stand in each other's way.
    private final int reach;
    private int units;
    private int played;

    private ModelTest(int seed) {
        random = new Random(seed);
        name = "run " + seed + ": ";
        reach = 2 + random.nextInt(7);
    }

    public static void main(String[] args) {
        for (int seed = 0; seed < RUNS; seed++) {
            ModelTest run = new ModelTest(seed);
            run.play();
        }
        System.out.println(RUNS + " runs of " + CALLS + " calls are as the model's");
    }

    private void play() {
        int before = random.nextInt(50);
        for (int i = 0; i < CALLS; i++) {
            if (i < before) {
                setUp();
            } else if (i == before) {
                check.due(name + "begin()", field.begin(), model.begin());
            } else {
                goOn();
            }
        }
        for (int tick = 0; tick < 201; tick++) {
            check.due(name + "number(" + tick + ")", field.number(tick), model.number(tick));
        }
        check.endIfWrong();
    }

    private int some(int bound) {
        return random.nextInt(40) == 0 ? ODD[random.nextInt(ODD.length)] : random.nextInt(bound);
    }

    private int someTile() {
        return random.nextInt(30) == 0 ? some(64) : 8 * random.nextInt(reach) + random.nextInt(reach);
    }

    private int someUnit() {
        return some(Math.max(1, units));
    }

    private void setUp() {
        switch (random.nextInt(8)) {
            case 0, 1, 2 -> {
                int tile = someTile();
                boolean is = random.nextInt(4) != 0;
                check.due(name + "wall(" + tile + ", " + is + ")", field.wall(tile, is), model.wall(tile, is));
            }
            case 3, 4 -> {
                int side = some(2);
                int tile = someTile();
                int due = model.unit(side, tile);
                check.due(name + "unit(" + side + ", " + tile + ")", field.unit(side, tile), due);
                units = due >= 0 ? due + 1 : units;
            }
            case 5 -> command();
            default -> ask();
        }
    }

    private void goOn() {
        switch (random.nextInt(12)) {
            case 0, 1, 2 -> command();
            case 3, 4, 5 -> run();
            case 6 -> forget();
            case 7 -> check.due(name + "replay()", field.replay(), model.replay());
            case 8 -> late();
            default -> ask();
        }
    }

    private void command() {
        int tick = random.nextInt(20) == 0 ? some(200) : played + random.nextInt(4) - (random.nextInt(8) == 0 ? 1 : 0);
        int unit = someUnit();
        int kind = random.nextInt(30) == 0 ? some(4) : random.nextInt(8) == 0 ? 0 : 1 + random.nextInt(2);
        int number = kind == 2 ? someUnit() : someTile();
        check.due(name + "command(" + tick + ", " + unit + ", " + kind + ", " + number + ")",
            field.command(tick, unit, kind, number), model.command(tick, unit, kind, number));
    }

    private void run() {
        int n = random.nextInt(8) == 0 ? some(21) : 1 + random.nextInt(3);
        int due = model.run(n);
        check.due(name + "run(" + n + ")", field.run(n), due);
        played = due >= 0 ? due : played;
    }

    private void forget() {
        // Mostly the oldest, so that there is room for new ones.
        int k = random.nextInt(3) == 0 ? some(24) : 0;
        check.due(name + "forget(" + k + ")", field.forget(k), model.forget(k));
    }

    private void late() {
        int tile = someTile();
        switch (random.nextInt(3)) {
            case 0 -> check.due(name + "late wall(" + tile + ")", field.wall(tile, true), model.wall(tile, true));
            case 1 -> check.due(name + "late unit(" + tile + ")", field.unit(0, tile), model.unit(0, tile));
            default -> check.due(name + "late begin()", field.begin(), model.begin());
        }
    }

    private void ask() {
        int unit = someUnit();
        int tick = random.nextInt(3) == 0 ? some(201) : random.nextInt(played + 1);
        int from = some(64);
        int to = some(64);
        switch (random.nextInt(8)) {
            case 0 -> check.due(name + "tile(" + unit + ")", field.tile(unit), model.tile(unit));
            case 1 -> check.due(name + "points(" + unit + ")", field.points(unit), model.points(unit));
            case 2 -> check.due(name + "order(" + unit + ")", field.order(unit), model.order(unit));
            case 3 -> check.due(name + "steps(" + from + ", " + to + ")", field.steps(from, to), model.steps(from, to));
            case 4 -> check.due(name + "number(" + tick + ")", field.number(tick), model.number(tick));
            case 5 -> check.due(name + "entries()", field.entries(), model.entries());
            case 6 -> check.due(name + "winner()", field.winner(), model.winner());
            default -> {
                int i = some(6);
                check.due(name + "path(" + unit + ", " + i + ")", field.path(unit, i), model.path(unit, i));
            }
        }
    }
}
