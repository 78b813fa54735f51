import java.util.Arrays;

/**
 * A small field on which units of two sides move and fight, tick by tick, by logged commands.
 * Every tick gives a number, and the log can be played again to see where two plays part.
 */
public final class LockstepField {
    public static final int BAD = -1;
    public static final int FULL = -2;
    public static final int EARLY = -3;

    private static final int WIDTH = 8;
    private static final int TILES = 64;
    private static final int WAYS = 4;
    private static final int NO_TILE = -1;
    private static final int UNMET = -1;
    private static final long NONE_AVOIDED = 0L;

    private static final int SIDES = 2;
    private static final int BOTH_SIDES = 2;
    private static final int NEITHER_SIDE = 3;
    private static final int MOST_UNITS = 8;
    private static final int MOST_POINTS = 20;
    private static final int BLOW = 3;
    private static final int END_OF_PATIENCE = 3;

    // An order is held as the kind of the entry that gave it: to STOP is to have none.
    private static final int STOP = 0;
    private static final int GO = 1;
    private static final int FIGHT = 2;

    private static final int MOST_ENTRIES = 24;
    private static final int MOST_TICKS = 200;
    private static final int MOST_TICKS_AT_ONCE = 20;
    private static final int SAME_NUMBERS = -1;

    private final Ground ground = new Ground();
    private final Log log = new Log();
    private final Play live = new Play(ground);
    // Made once and started anew by each replay, so that no call has to make objects.
    private final Play again = new Play(ground);
    private final int[] numbers = new int[MOST_TICKS];
    private int played;
    private boolean begun;

    public LockstepField() {
    }

    public boolean wall(int tile, boolean is) {
        if (begun || !isTile(tile) || live.isTaken(tile)) {
            return false;
        }
        ground.build(tile, is);
        return true;
    }

    public int unit(int side, int tile) {
        if (begun) {
            return EARLY;
        }
        if (side < 0 || side >= SIDES || !isTile(tile) || ground.isWall(tile) || live.isTaken(tile)) {
            return BAD;
        }
        if (live.count == MOST_UNITS) {
            return FULL;
        }
        again.place(side, tile);
        return live.place(side, tile);
    }

    public int begin() {
        if (begun) {
            return EARLY;
        }
        begun = true;
        return live.count;
    }

    public int command(int tick, int unit, int kind, int number) {
        if (!live.has(unit) || !isKindWithNumber(unit, kind, number)) {
            return BAD;
        }
        if (!begun || tick < played) {
            return EARLY;
        }
        if (log.count == MOST_ENTRIES) {
            return FULL;
        }
        return log.add(tick, unit, kind, number);
    }

    public boolean forget(int k) {
        if (k < 0 || k >= log.count) {
            return false;
        }
        log.remove(k);
        return true;
    }

    public int run(int n) {
        if (n < 1 || n > MOST_TICKS_AT_ONCE) {
            return BAD;
        }
        if (!begun) {
            return EARLY;
        }
        if (n > MOST_TICKS - played) {
            return FULL;
        }
        for (int i = 0; i < n; i++) {
            numbers[played] = live.playTick(played, log);
            played++;
        }
        return played;
    }

    public int replay() {
        again.restart();
        for (int tick = 0; tick < played; tick++) {
            if (again.playTick(tick, log) != numbers[tick]) {
                return tick;
            }
        }
        return SAME_NUMBERS;
    }

    public int number(int tick) {
        return tick >= 0 && tick < played ? numbers[tick] : 0;
    }

    public int tile(int unit) {
        if (!live.has(unit) || live.units[unit].isDead()) {
            return BAD;
        }
        return live.units[unit].tile;
    }

    public int points(int unit) {
        return live.has(unit) ? live.units[unit].points : BAD;
    }

    public int order(int unit) {
        if (!live.has(unit)) {
            return BAD;
        }
        return live.units[unit].order + 4 * live.units[unit].aim;
    }

    public int path(int unit, int i) {
        if (!live.has(unit) || i < 0 || i >= live.units[unit].pathLength()) {
            return BAD;
        }
        return live.units[unit].pathTile(i);
    }

    public int entries() {
        return log.count;
    }

    public int steps(int from, int to) {
        if (!isTile(from) || !isTile(to) || ground.isWall(from) || ground.isWall(to)) {
            return BAD;
        }
        int length = ground.search(from, to, NONE_AVOIDED);
        return length == UNMET ? BAD : length;
    }

    public int winner() {
        boolean zero = live.hasLiving(0);
        boolean one = live.hasLiving(1);
        if (zero && one) {
            return BOTH_SIDES;
        }
        if (zero) {
            return 0;
        }
        return one ? 1 : NEITHER_SIDE;
    }

    private boolean isKindWithNumber(int unit, int kind, int number) {
        switch (kind) {
            case STOP:
                return true;
            case GO:
                return isTile(number);
            case FIGHT:
                return live.has(number) && number != unit;
            default:
                return false;
        }
    }

    private static boolean isTile(int tile) {
        return tile >= 0 && tile < TILES;
    }

    /** The tiles with their walls, and the search for ways over them. A set of tiles is a long, a bit for each. */
    private static final class Ground {
        private long walls;
        private final int[] queue = new int[TILES];
        private final int[] cameFrom = new int[TILES];
        private final int[] stepsTo = new int[TILES];

        static long bit(int tile) {
            return 1L << tile;
        }

        boolean isWall(int tile) {
            return (walls & bit(tile)) != 0;
        }

        void build(int tile, boolean is) {
            walls = is ? walls | bit(tile) : walls & ~bit(tile);
        }

        /** How many steps lead from one tile to the other, or UNMET; layPath can be asked afterwards. */
        int search(int from, int to, long avoided) {
            // The goal is open even when it is taken: a unit heads for the tile of the one to fight.
            long closed = walls | (avoided & ~bit(to)) | bit(from);
            Arrays.fill(stepsTo, UNMET);
            stepsTo[from] = 0;
            queue[0] = from;
            int met = 1;
            for (int gone = 0; gone < TILES && gone < met && stepsTo[to] == UNMET; gone++) {
                int here = queue[gone];
                for (int way = 0; way < WAYS; way++) {
                    int next = beside(here, way);
                    if (next != NO_TILE && (closed & bit(next)) == 0) {
                        closed |= bit(next);
                        cameFrom[next] = here;
                        stepsTo[next] = stepsTo[here] + 1;
                        queue[met] = next;
                        met++;
                    }
                }
            }
            return stepsTo[to];
        }

        /** Writes the way that the last search found to a tile, without the tile that it began from. */
        void layPath(int to, int[] path) {
            int tile = to;
            for (int i = stepsTo[to] - 1; i >= 0; i--) {
                path[i] = tile;
                tile = cameFrom[tile];
            }
        }

        static int distance(int a, int b) {
            return Math.abs(a % WIDTH - b % WIDTH) + Math.abs(a / WIDTH - b / WIDTH);
        }

        /** The ways are numbered in the order that the document goes through them. */
        private static int beside(int tile, int way) {
            switch (way) {
                case 0:
                    return tile >= WIDTH ? tile - WIDTH : NO_TILE;
                case 1:
                    return tile % WIDTH < WIDTH - 1 ? tile + 1 : NO_TILE;
                case 2:
                    return tile < TILES - WIDTH ? tile + WIDTH : NO_TILE;
                default:
                    return tile % WIDTH > 0 ? tile - 1 : NO_TILE;
            }
        }
    }

    /** The entries, in the order in which they came. */
    private static final class Log {
        private final int[] ticks = new int[MOST_ENTRIES];
        private final int[] units = new int[MOST_ENTRIES];
        private final int[] kinds = new int[MOST_ENTRIES];
        private final int[] aims = new int[MOST_ENTRIES];
        private int count;

        int add(int tick, int unit, int kind, int aim) {
            ticks[count] = tick;
            units[count] = unit;
            kinds[count] = kind;
            // STOP may come with any number: kept out, so that no order carries it.
            aims[count] = kind == STOP ? 0 : aim;
            count++;
            return count - 1;
        }

        void remove(int k) {
            closeGap(ticks, k);
            closeGap(units, k);
            closeGap(kinds, k);
            closeGap(aims, k);
            count--;
        }

        private void closeGap(int[] row, int k) {
            System.arraycopy(row, k + 1, row, k, count - k - 1);
        }
    }

    /** A unit as it stands in one play. */
    private static final class Unit {
        private int side;
        private int start;
        private int tile;
        private int points;
        private int order;
        private int aim;
        private int patience;
        private boolean hurt;
        private final int[] route = new int[TILES];
        // The path is route[routeFrom .. routeTo - 1]: a step taken moves routeFrom alone.
        private int routeFrom;
        private int routeTo;

        void settle(int newSide, int newStart) {
            side = newSide;
            start = newStart;
            restart();
        }

        void restart() {
            tile = start;
            points = MOST_POINTS;
            hurt = false;
            obey(STOP, 0);
        }

        void obey(int newOrder, int newAim) {
            order = newOrder;
            aim = newAim;
            patience = 0;
            clearPath();
        }

        /** Leaves path and patience as they are: the document clears them by entries and by death alone. */
        void dropOrder() {
            order = STOP;
            aim = 0;
        }

        boolean isDead() {
            return points == 0;
        }

        void suffer(int loss) {
            hurt = loss > 0;
            points = Math.max(0, points - loss);
            if (isDead()) {
                tile = NO_TILE;
                obey(STOP, 0);
            }
        }

        void rest() {
            if (!isDead() && order == STOP && !hurt && points < MOST_POINTS) {
                points++;
            }
        }

        void clearPath() {
            routeFrom = 0;
            routeTo = 0;
        }

        int pathLength() {
            return routeTo - routeFrom;
        }

        int pathTile(int i) {
            return route[routeFrom + i];
        }

        boolean isPathTo(int goal) {
            return pathLength() > 0 && route[routeTo - 1] == goal;
        }

        boolean runsOutOfPatience() {
            patience++;
            if (patience < END_OF_PATIENCE) {
                return false;
            }
            patience = 0;
            return true;
        }

        void step() {
            tile = route[routeFrom];
            routeFrom++;
            patience = 0;
            if (order == GO && tile == aim) {
                dropOrder();
            }
        }
    }

    /** The units of one play, and what a tick does to them. */
    private static final class Play {
        private final Ground ground;
        private final Unit[] units = new Unit[MOST_UNITS];
        private final int[] losses = new int[MOST_UNITS];
        private int count;

        Play(Ground ground) {
            this.ground = ground;
            for (int u = 0; u < MOST_UNITS; u++) {
                units[u] = new Unit();
            }
        }

        int place(int side, int tile) {
            units[count].settle(side, tile);
            count++;
            return count - 1;
        }

        void restart() {
            for (int u = 0; u < count; u++) {
                units[u].restart();
            }
        }

        boolean has(int unit) {
            return unit >= 0 && unit < count;
        }

        boolean hasLiving(int side) {
            for (int u = 0; u < count; u++) {
                if (units[u].side == side && !units[u].isDead()) {
                    return true;
                }
            }
            return false;
        }

        boolean isTaken(int tile) {
            return (takenTiles() & Ground.bit(tile)) != 0;
        }

        int playTick(int tick, Log log) {
            giveOrders(tick, log);
            for (int u = 0; u < count; u++) {
                if (units[u].order != STOP) {
                    follow(units[u]);
                }
            }
            exchangeBlows();
            if (tick % 4 == 3) {
                restAll();
            }
            return sum();
        }

        private long takenTiles() {
            long taken = 0L;
            for (int u = 0; u < count; u++) {
                if (!units[u].isDead()) {
                    taken |= Ground.bit(units[u].tile);
                }
            }
            return taken;
        }

        private void giveOrders(int tick, Log log) {
            for (int e = 0; e < log.count; e++) {
                Unit unit = units[log.units[e]];
                if (log.ticks[e] == tick && !unit.isDead()) {
                    unit.obey(log.kinds[e], log.aims[e]);
                }
            }
        }

        private void follow(Unit unit) {
            int goal = goalOf(unit);
            if (goal == NO_TILE) {
                unit.dropOrder();
            } else if (unit.order == FIGHT && Ground.distance(unit.tile, goal) == 1) {
                unit.clearPath();
            } else {
                walk(unit, goal);
            }
        }

        private int goalOf(Unit unit) {
            if (unit.order == FIGHT) {
                return units[unit.aim].tile;
            }
            return unit.aim == unit.tile || ground.isWall(unit.aim) ? NO_TILE : unit.aim;
        }

        private void walk(Unit unit, int goal) {
            if (!unit.isPathTo(goal)) {
                unit.clearPath();
                findPath(unit, goal, NONE_AVOIDED);
            }
            if (unit.pathLength() == 0) {
                unit.dropOrder();
            } else if (!isTaken(unit.pathTile(0))) {
                unit.step();
            } else if (unit.runsOutOfPatience()) {
                findPath(unit, goal, takenTiles());
            }
        }

        /** The unit keeps the path that it has when no other is found. */
        private void findPath(Unit unit, int goal, long avoided) {
            int length = ground.search(unit.tile, goal, avoided);
            if (length > 0) {
                ground.layPath(goal, unit.route);
                unit.routeFrom = 0;
                unit.routeTo = length;
            }
        }

        private void exchangeBlows() {
            Arrays.fill(losses, 0);
            for (int u = 0; u < count; u++) {
                if (units[u].order == FIGHT && reaches(units[u], units[units[u].aim])) {
                    losses[units[u].aim] += BLOW;
                }
            }
            // Only now, so that two units can kill each other in one tick.
            for (int u = 0; u < count; u++) {
                units[u].suffer(losses[u]);
            }
        }

        private static boolean reaches(Unit unit, Unit other) {
            return !other.isDead() && Ground.distance(unit.tile, other.tile) == 1;
        }

        private void restAll() {
            for (int u = 0; u < count; u++) {
                units[u].rest();
            }
        }

        private int sum() {
            int sum = 17;
            for (int u = 0; u < count; u++) {
                Unit unit = units[u];
                sum = 31 * sum + 64 * unit.points + (unit.isDead() ? 0 : unit.tile);
                sum = 31 * sum + 8 * unit.patience + unit.order;
            }
            return sum;
        }
    }
}
