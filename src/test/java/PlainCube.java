import java.util.ArrayDeque;
import java.util.ArrayList;
import java.util.Arrays;
import java.util.Deque;
import java.util.HashSet;
import java.util.List;
import java.util.Set;

/**
 * A second program for the document, written sentence by sentence and without care for
 * speed, from which the answers for long runs of calls are taken. It shares no code with
 * FaultyCube.
 */
final class PlainCube {
    private static final class Message {
        int state;
        int position;
        int goal;
        int moves;
        int detours;

        Message copy() {
            Message m = new Message();
            m.state = state;
            m.position = position;
            m.goal = goal;
            m.moves = moves;
            m.detours = detours;
            return m;
        }
    }

    private static final class World {
        int d = 4;
        Set<Integer> dead = new HashSet<>();
        List<Message> messages = new ArrayList<>();
        int steps = 0;

        World copy() {
            World w = new World();
            w.d = d;
            w.dead = new HashSet<>(dead);
            for (Message m : messages) {
                w.messages.add(m.copy());
            }
            w.steps = steps;
            return w;
        }
    }

    private World w = new World();
    private final Deque<World> undos = new ArrayDeque<>();

    private void save() {
        undos.addLast(w.copy());
        if (undos.size() > 4) {
            undos.removeFirst();
        }
    }

    private int n() {
        int n = 1;
        for (int i = 0; i < w.d; i++) {
            n *= 2;
        }
        return n;
    }

    private static void argument(boolean fine) {
        if (!fine) {
            throw new IllegalArgumentException();
        }
    }

    private static void allowed(boolean fine) {
        if (!fine) {
            throw new IllegalStateException();
        }
    }

    private boolean node(int v) {
        return 0 <= v && v < n();
    }

    private boolean alive(int v) {
        return !w.dead.contains(v);
    }

    private int bit(int v, int k) {
        int rest = v;
        for (int i = 0; i < k; i++) {
            rest /= 2;
        }
        return rest % 2;
    }

    private int neighbour(int v, int k) {
        int power = 1;
        for (int i = 0; i < k; i++) {
            power *= 2;
        }
        return bit(v, k) == 1 ? v - power : v + power;
    }

    private int apart(int v, int t) {
        int found = 0;
        for (int k = 0; k < w.d; k++) {
            found += bit(v, k) == bit(t, k) ? 0 : 1;
        }
        return found;
    }

    private List<Integer> preferred(int v, int t) {
        List<Integer> dims = new ArrayList<>();
        for (int k = 0; k < w.d; k++) {
            if (bit(v, k) != bit(t, k)) {
                dims.add(k);
            }
        }
        return dims;
    }

    private List<Integer> spare(int v, int t) {
        List<Integer> dims = new ArrayList<>();
        for (int k = 0; k < w.d; k++) {
            if (bit(v, k) == bit(t, k)) {
                dims.add(k);
            }
        }
        return dims;
    }

    /** The last entry is the number of rounds that changed a level. */
    private int[] levels() {
        int[] old = new int[n()];
        for (int v = 0; v < n(); v++) {
            old[v] = alive(v) ? w.d : 0;
        }
        int changing = 0;
        while (true) {
            int[] next = new int[n()];
            for (int v = 0; v < n(); v++) {
                int[] s = new int[w.d];
                for (int k = 0; k < w.d; k++) {
                    s[k] = old[neighbour(v, k)];
                }
                Arrays.sort(s);
                next[v] = w.d;
                for (int k = w.d - 1; k >= 0; k--) {
                    if (s[k] < k) {
                        next[v] = k;
                    }
                }
                if (!alive(v)) {
                    next[v] = 0;
                }
            }
            if (Arrays.equals(old, next)) {
                int[] all = Arrays.copyOf(old, n() + 1);
                all[n()] = changing;
                return all;
            }
            changing++;
            old = next;
        }
    }

    /** u[v][k] is the bit u(k) of the node v. */
    private int[][] vectors() {
        int[][] u = new int[n()][w.d + 1];
        for (int k = 1; k <= w.d; k++) {
            for (int v = 0; v < n(); v++) {
                int ones = 0;
                for (int i = 0; i < w.d; i++) {
                    ones += u[neighbour(v, i)][k - 1];
                }
                u[v][k] = alive(v) && (k == 1 || ones > w.d - k) ? 1 : 0;
            }
        }
        return u;
    }

    /** The dimensions by the levels of the neighbours, greatest first, then the lower first. */
    private List<Integer> sorted(int v, List<Integer> dims, int[] levels) {
        List<Integer> list = new ArrayList<>(dims);
        list.sort((a, b) -> {
            int byLevel = levels[neighbour(v, b)] - levels[neighbour(v, a)];
            return byLevel != 0 ? byLevel : a - b;
        });
        return list;
    }

    int setDimension(int d) {
        argument(1 <= d && d <= 6);
        save();
        int old = w.d;
        w = new World();
        w.d = d;
        return old;
    }

    private int die(int v) {
        w.dead.add(v);
        int lost = 0;
        for (Message m : w.messages) {
            if (m.state == 0 && (m.position == v || m.goal == v)) {
                m.state = 2;
                lost++;
            }
        }
        return lost;
    }

    int kill(int v) {
        argument(node(v));
        allowed(alive(v));
        save();
        return die(v);
    }

    int revive(int v) {
        argument(node(v));
        allowed(!alive(v));
        save();
        w.dead.remove(v);
        return w.dead.size();
    }

    int killAll(int mask) {
        save();
        int died = 0;
        for (int v = 0; v < 32 && v < n(); v++) {
            if ((mask >> v) % 2 != 0 && alive(v)) {
                die(v);
                died++;
            }
        }
        return died;
    }

    int isAlive(int v) {
        argument(node(v));
        return alive(v) ? 1 : 0;
    }

    int distance(int s, int t) {
        argument(node(s) && node(t));
        return apart(s, t);
    }

    int shortest(int s, int t) {
        argument(node(s) && node(t));
        allowed(alive(s) && alive(t));
        int[] far = new int[n()];
        Arrays.fill(far, -1);
        far[s] = 0;
        Deque<Integer> queue = new ArrayDeque<>(List.of(s));
        while (!queue.isEmpty()) {
            int v = queue.removeFirst();
            for (int k = 0; k < w.d; k++) {
                int x = neighbour(v, k);
                if (alive(x) && far[x] == -1) {
                    far[x] = far[v] + 1;
                    queue.addLast(x);
                }
            }
        }
        return far[t];
    }

    int level(int v) {
        argument(node(v));
        return levels()[v];
    }

    int rounds() {
        return levels()[n()];
    }

    int safeNodes() {
        int safe = 0;
        int[] levels = levels();
        for (int v = 0; v < n(); v++) {
            safe += levels[v] == w.d ? 1 : 0;
        }
        return safe;
    }

    int vectorBit(int v, int k) {
        argument(node(v) && 1 <= k && k <= w.d);
        return vectors()[v][k];
    }

    private int decision(int s, int t, int[] levels) {
        int h = apart(s, t);
        if (h == 0 || levels[s] >= h) {
            return 0;
        }
        for (int k : preferred(s, t)) {
            if (levels[neighbour(s, k)] >= h - 1) {
                return 0;
            }
        }
        for (int k : spare(s, t)) {
            if (levels[neighbour(s, k)] >= h + 1) {
                return 1;
            }
        }
        return 2;
    }

    int decide(int s, int t) {
        argument(node(s) && node(t));
        allowed(alive(s) && alive(t));
        return decision(s, t, levels());
    }

    /** No nodes if there is no route. */
    private List<Integer> route(int s, int t) {
        int[] levels = levels();
        List<Integer> nodes = new ArrayList<>();
        int decision = decision(s, t, levels);
        if (decision == 2) {
            return nodes;
        }
        nodes.add(s);
        int v = s;
        if (decision == 1) {
            v = neighbour(v, sorted(v, spare(v, t), levels).get(0));
            nodes.add(v);
        }
        while (v != t) {
            v = neighbour(v, sorted(v, preferred(v, t), levels).get(0));
            if (!alive(v)) {
                throw new AssertionError("a route comes to a dead node");
            }
            nodes.add(v);
        }
        return nodes;
    }

    int routeLength(int s, int t) {
        argument(node(s) && node(t));
        allowed(alive(s) && alive(t));
        return route(s, t).size() - 1;
    }

    int routeNode(int s, int t, int index) {
        argument(node(s) && node(t) && index >= 0);
        allowed(alive(s) && alive(t));
        List<Integer> nodes = route(s, t);
        return index < nodes.size() ? nodes.get(index) : -1;
    }

    int reach(int s, int decision) {
        argument(node(s) && 0 <= decision && decision <= 2);
        allowed(alive(s));
        int[] levels = levels();
        int found = 0;
        for (int t = 0; t < n(); t++) {
            found += t != s && alive(t) && decision(s, t, levels) == decision ? 1 : 0;
        }
        return found;
    }

    private void tell(int v, int time, List<Integer> dims, int[] levels, int[] times) {
        if (!alive(v)) {
            return;
        }
        if (times[v] != -1) {
            throw new AssertionError("a node has the message twice");
        }
        times[v] = time;
        List<Integer> list = sorted(v, dims, levels);
        for (int i = 0; i < list.size(); i++) {
            List<Integer> rest = list.subList(i + 1, list.size());
            tell(neighbour(v, list.get(i)), time + 1, rest, levels, times);
        }
    }

    private int[] times(int s) {
        int[] times = new int[n()];
        Arrays.fill(times, -1);
        tell(s, 0, spare(s, s), levels(), times);
        return times;
    }

    int broadcastTime(int s, int t) {
        argument(node(s) && node(t));
        allowed(alive(s));
        return times(s)[t];
    }

    int broadcastSize(int s) {
        argument(node(s));
        allowed(alive(s));
        int size = 0;
        for (int time : times(s)) {
            size += time == -1 ? 0 : 1;
        }
        return size;
    }

    private boolean free(int mask, int base) {
        for (int v = 0; v < n(); v++) {
            if ((v | mask) == (base | mask) && !alive(v)) {
                return false;
            }
        }
        return true;
    }

    int freeSubcubes(int k) {
        argument(0 <= k && k <= w.d);
        int found = 0;
        for (int mask = 0; mask < n(); mask++) {
            for (int base = 0; base < n(); base++) {
                found += Integer.bitCount(mask) == k && (mask & base) == 0
                        && free(mask, base) ? 1 : 0;
            }
        }
        return found;
    }

    int largestSubcube() {
        for (int k = w.d; k >= 0; k--) {
            for (int mask = 0; mask < n(); mask++) {
                for (int base = 0; base < n(); base++) {
                    if (Integer.bitCount(mask) == k && (mask & base) == 0
                            && free(mask, base)) {
                        return 64 * mask + base;
                    }
                }
            }
        }
        return -1;
    }

    /** Ford and Fulkerson over a matrix: v is the way in, n + v the way out of node v. */
    int disjointPaths(int s, int t) {
        argument(node(s) && node(t) && s != t);
        allowed(alive(s) && alive(t));
        int n = n();
        int[][] room = new int[2 * n][2 * n];
        for (int v = 0; v < n; v++) {
            room[v][n + v] = v == s || v == t ? 9 : 1;
            for (int k = 0; k < w.d; k++) {
                int x = neighbour(v, k);
                room[n + v][x] = alive(v) && alive(x) ? 1 : 0;
            }
        }
        int paths = 0;
        while (push(n + s, t, room, new boolean[2 * n])) {
            paths++;
        }
        return paths;
    }

    private static boolean push(int at, int goal, int[][] room, boolean[] seen) {
        if (at == goal) {
            return true;
        }
        seen[at] = true;
        for (int next = 0; next < room.length; next++) {
            if (room[at][next] > 0 && !seen[next] && push(next, goal, room, seen)) {
                room[at][next]--;
                room[next][at]++;
                return true;
            }
        }
        return false;
    }

    int send(int s, int t) {
        argument(node(s) && node(t));
        allowed(alive(s) && alive(t) && w.messages.size() < 24);
        save();
        Message m = new Message();
        m.position = s;
        m.goal = t;
        m.state = s == t ? 1 : 0;
        w.messages.add(m);
        return w.messages.size() - 1;
    }

    private int strongestAlive(int v, List<Integer> dims, int[] levels) {
        for (int k : sorted(v, dims, levels)) {
            if (alive(neighbour(v, k))) {
                return neighbour(v, k);
            }
        }
        return -1;
    }

    int step(int steps) {
        argument(1 <= steps && steps <= 20);
        save();
        int[] levels = levels();
        int made = 0;
        for (int i = 0; i < steps; i++) {
            Set<String> gone = new HashSet<>();
            for (Message m : w.messages) {
                if (m.state != 0) {
                    continue;
                }
                int x = strongestAlive(m.position, preferred(m.position, m.goal), levels);
                boolean detour = false;
                if (x == -1 && m.detours < 2) {
                    x = strongestAlive(m.position, spare(m.position, m.goal), levels);
                    detour = true;
                }
                if (x == -1 || !gone.add(m.position + ">" + x)) {
                    continue;
                }
                m.position = x;
                m.moves++;
                m.detours += detour ? 1 : 0;
                m.state = x == m.goal ? 1 : 0;
                made++;
            }
            w.steps++;
        }
        return made;
    }

    private Message message(int number) {
        argument(0 <= number && number < w.messages.size());
        return w.messages.get(number);
    }

    int state(int number) {
        return message(number).state;
    }

    int position(int number) {
        return message(number).position;
    }

    int moves(int number) {
        return message(number).moves;
    }

    int count(int state) {
        argument(0 <= state && state <= 2);
        int found = 0;
        for (Message m : w.messages) {
            found += m.state == state ? 1 : 0;
        }
        return found;
    }

    int undo() {
        allowed(!undos.isEmpty());
        w = undos.removeLast();
        return undos.size();
    }

    long digest() {
        List<Integer> values = new ArrayList<>(
                List.of(undos.size(), w.d, w.steps, rounds(), safeNodes(), largestSubcube()));
        int[] levels = levels();
        int[][] u = vectors();
        for (int v = 0; v < n(); v++) {
            values.add(levels[v]);
            for (int k = 1; k <= w.d; k++) {
                values.add(u[v][k]);
            }
        }
        values.add(w.messages.size());
        for (Message m : w.messages) {
            values.addAll(List.of(m.state, m.position, m.goal, m.moves, m.detours));
        }
        long h = 12805;
        for (int v : values) {
            h = 31 * h + v;
        }
        return h;
    }
}
