import java.util.ArrayList;
import java.util.LinkedHashMap;
import java.util.LinkedList;
import java.util.List;

/** The document's words once more, in another form and with no regard to room, to hold LockstepField against. */
final class Model {
    private static final int[] DX = {0, 1, 0, -1};
    private static final int[] DY = {-1, 0, 1, 0};

    private static final class Soldier {
        int side;
        int tile;
        int points = 20;
        String order = "none";
        int of;
        LinkedList<Integer> path = new LinkedList<>();
        int patience;
        boolean lost;

        boolean dead() {
            return points == 0;
        }
    }

    private final boolean[][] wall = new boolean[8][8];
    private final List<int[]> came = new ArrayList<>();
    private final List<int[]> log = new ArrayList<>();
    private final List<Integer> numbers = new ArrayList<>();
    private List<Soldier> soldiers = new ArrayList<>();
    private boolean begun;

    private static boolean onField(int tile) {
        return tile >= 0 && tile <= 63;
    }

    private boolean walled(int tile) {
        return wall[tile / 8][tile % 8];
    }

    private boolean known(int unit) {
        return unit >= 0 && unit < soldiers.size();
    }

    private List<Integer> takenBy(List<Soldier> all) {
        List<Integer> taken = new ArrayList<>();
        for (Soldier one : all) {
            if (!one.dead()) {
                taken.add(one.tile);
            }
        }
        return taken;
    }

    boolean wall(int tile, boolean is) {
        if (begun || !onField(tile) || takenBy(soldiers).contains(tile)) {
            return false;
        }
        wall[tile / 8][tile % 8] = is;
        return true;
    }

    int unit(int side, int tile) {
        if (begun) {
            return -3;
        }
        if (side != 0 && side != 1 || !onField(tile) || walled(tile) || takenBy(soldiers).contains(tile)) {
            return -1;
        }
        if (soldiers.size() >= 8) {
            return -2;
        }
        came.add(new int[] {side, tile});
        soldiers = asTheyCame();
        return soldiers.size() - 1;
    }

    private List<Soldier> asTheyCame() {
        List<Soldier> all = new ArrayList<>();
        for (int[] one : came) {
            Soldier soldier = new Soldier();
            soldier.side = one[0];
            soldier.tile = one[1];
            all.add(soldier);
        }
        return all;
    }

    int begin() {
        if (begun) {
            return -3;
        }
        begun = true;
        return soldiers.size();
    }

    int command(int tick, int unit, int kind, int number) {
        boolean right = known(unit) && (kind == 0 || kind == 1 && onField(number)
            || kind == 2 && known(number) && number != unit);
        if (!right) {
            return -1;
        }
        if (!begun || tick < numbers.size()) {
            return -3;
        }
        if (log.size() >= 24) {
            return -2;
        }
        log.add(new int[] {tick, unit, kind, number});
        return log.size() - 1;
    }

    boolean forget(int k) {
        if (k < 0 || k >= log.size()) {
            return false;
        }
        log.remove(k);
        return true;
    }

    int run(int n) {
        if (n < 1 || n > 20) {
            return -1;
        }
        if (!begun) {
            return -3;
        }
        if (numbers.size() + n > 200) {
            return -2;
        }
        for (int i = 0; i < n; i++) {
            numbers.add(tick(soldiers, numbers.size()));
        }
        return numbers.size();
    }

    int replay() {
        List<Soldier> others = asTheyCame();
        for (int t = 0; t < numbers.size(); t++) {
            if (tick(others, t) != numbers.get(t)) {
                return t;
            }
        }
        return -1;
    }

    int number(int tick) {
        return tick >= 0 && tick < numbers.size() ? numbers.get(tick) : 0;
    }

    int tile(int unit) {
        return !known(unit) || soldiers.get(unit).dead() ? -1 : soldiers.get(unit).tile;
    }

    int points(int unit) {
        return known(unit) ? soldiers.get(unit).points : -1;
    }

    int order(int unit) {
        if (!known(unit)) {
            return -1;
        }
        Soldier one = soldiers.get(unit);
        return one.order.equals("none") ? 0 : orderNumber(one) + 4 * one.of;
    }

    int path(int unit, int i) {
        if (!known(unit) || i < 0 || i >= soldiers.get(unit).path.size()) {
            return -1;
        }
        return soldiers.get(unit).path.get(i);
    }

    int entries() {
        return log.size();
    }

    int steps(int from, int to) {
        if (!onField(from) || !onField(to) || walled(from) || walled(to)) {
            return -1;
        }
        if (from == to) {
            return 0;
        }
        int length = way(from, to, new ArrayList<>()).size();
        return length == 0 ? -1 : length;
    }

    int winner() {
        int[] living = new int[2];
        for (Soldier one : soldiers) {
            living[one.side] += one.dead() ? 0 : 1;
        }
        if (living[0] > 0 && living[1] > 0) {
            return 2;
        }
        return living[0] > 0 ? 0 : living[1] > 0 ? 1 : 3;
    }

    private static int orderNumber(Soldier one) {
        return one.order.equals("none") ? 0 : one.order.equals("go") ? 1 : 2;
    }

    /** All tiles are met before the way is read off, where the class stops at the goal. */
    private LinkedList<Integer> way(int a, int b, List<Integer> avoided) {
        LinkedHashMap<Integer, Integer> from = new LinkedHashMap<>();
        LinkedList<Integer> toGoOnFrom = new LinkedList<>();
        from.put(a, null);
        toGoOnFrom.add(a);
        while (!toGoOnFrom.isEmpty()) {
            int here = toGoOnFrom.removeFirst();
            for (int d = 0; d < 4; d++) {
                int x = here % 8 + DX[d];
                int y = here / 8 + DY[d];
                if (x < 0 || x > 7 || y < 0 || y > 7 || wall[y][x]) {
                    continue;
                }
                int next = 8 * y + x;
                if (from.containsKey(next) || next != b && avoided.contains(next)) {
                    continue;
                }
                from.put(next, here);
                toGoOnFrom.addLast(next);
            }
        }
        LinkedList<Integer> path = new LinkedList<>();
        if (from.containsKey(b)) {
            for (int at = b; at != a; at = from.get(at)) {
                path.addFirst(at);
            }
        }
        return path;
    }

    private static int apart(int a, int b) {
        return Math.abs(a / 8 - b / 8) + Math.abs(a % 8 - b % 8);
    }

    private int tick(List<Soldier> all, int t) {
        for (int[] entry : log) {
            if (entry[0] == t && !all.get(entry[1]).dead()) {
                Soldier one = all.get(entry[1]);
                one.path = new LinkedList<>();
                one.patience = 0;
                one.order = entry[2] == 0 ? "none" : entry[2] == 1 ? "go" : "fight";
                one.of = entry[3];
            }
        }
        for (Soldier one : all) {
            if (!one.dead() && !one.order.equals("none")) {
                move(all, one);
            }
        }
        blows(all);
        for (Soldier one : all) {
            if (t % 4 == 3 && !one.dead() && one.order.equals("none") && !one.lost && one.points < 20) {
                one.points++;
            }
        }
        int number = 17;
        for (Soldier one : all) {
            number = 31 * number + 64 * one.points + (one.dead() ? 0 : one.tile);
            number = 31 * number + 8 * one.patience + orderNumber(one);
        }
        return number;
    }

    private void move(List<Soldier> all, Soldier one) {
        boolean fights = one.order.equals("fight");
        if (fights ? all.get(one.of).dead() : one.of == one.tile || walled(one.of)) {
            one.order = "none";
            return;
        }
        int goal = fights ? all.get(one.of).tile : one.of;
        if (fights && apart(one.tile, goal) == 1) {
            one.path.clear();
            return;
        }
        if (one.path.isEmpty() || one.path.getLast() != goal) {
            one.path = way(one.tile, goal, new ArrayList<>());
        }
        if (one.path.isEmpty()) {
            one.order = "none";
            return;
        }
        if (!takenBy(all).contains(one.path.getFirst())) {
            one.tile = one.path.removeFirst();
            one.patience = 0;
            if (!fights && one.tile == goal) {
                one.order = "none";
            }
            return;
        }
        one.patience++;
        if (one.patience == 3) {
            one.patience = 0;
            LinkedList<Integer> round = way(one.tile, goal, takenBy(all));
            if (!round.isEmpty()) {
                one.path = round;
            }
        }
    }

    private static void blows(List<Soldier> all) {
        int[] after = new int[all.size()];
        for (int u = 0; u < all.size(); u++) {
            int strikers = 0;
            for (Soldier one : all) {
                boolean strikes = !one.dead() && one.order.equals("fight") && one.of == u && !all.get(u).dead()
                    && apart(one.tile, all.get(u).tile) == 1;
                strikers += strikes ? 1 : 0;
            }
            after[u] = Math.max(0, all.get(u).points - 3 * strikers);
        }
        for (int u = 0; u < all.size(); u++) {
            Soldier one = all.get(u);
            one.lost = after[u] < one.points;
            one.points = after[u];
            if (one.dead()) {
                one.order = "none";
                one.path.clear();
                one.patience = 0;
            }
        }
    }
}
