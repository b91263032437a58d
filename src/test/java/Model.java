import java.util.ArrayList;
import java.util.HashSet;
import java.util.List;
import java.util.Set;
import java.util.TreeMap;
import java.util.regex.Pattern;

/**
 * The document once more, in another way than the class: sets of pins, brute force and the Java
 * library, so that a mistake of the one is not likely one of the other.
 */
final class Model {
    private static final String LETTERS = "a?b?c?d?e?f?g?h?i?j?k?l?";
    private static final String STEP = "(-|[a-l]|\\((?=[a-l]{2})" + LETTERS + "\\))";
    private static final Pattern TUNE = Pattern.compile(STEP + "{1,24}");
    private static final Pattern WHOLE_STEPS = Pattern.compile(STEP + "{0,24}");
    private static final Pattern OPEN_STEP = Pattern.compile(STEP + "{0,23}\\((?!l)" + LETTERS);

    private static final class Town {
        int box;
        Set<List<Integer>> drum = new HashSet<>();
        Set<List<Integer>> tune = new HashSet<>();
        int[] wear = new int[12];
        int plays;
        int sounds;
        int fallen;

        Town copy() {
            Town copy = new Town();
            copy.box = box;
            copy.drum = new HashSet<>(drum);
            copy.tune = new HashSet<>(tune);
            copy.wear = wear.clone();
            copy.plays = plays;
            copy.sounds = sounds;
            copy.fallen = fallen;
            return copy;
        }

        int right(Set<List<Integer>> pins) {
            Set<List<Integer>> both = new HashSet<>(pins);
            both.retainAll(tune);
            return both.size();
        }
    }

    private static final class State {
        List<Town> towns = new ArrayList<>();
        int[] settings = {2, 10, 200};
        int[][] owes = new int[6][6];
        int lent;
        int repaid;
        int rings;
        int settled;

        State copy() {
            State copy = new State();
            for (Town town : towns) {
                copy.towns.add(town.copy());
            }
            copy.settings = settings.clone();
            for (int i = 0; i < 6; i++) {
                copy.owes[i] = owes[i].clone();
            }
            copy.lent = lent;
            copy.repaid = repaid;
            copy.rings = rings;
            copy.settled = settled;
            return copy;
        }
    }

    private static final class Outcome {
        Set<List<Integer>> sounding = new HashSet<>();
        Set<List<Integer>> staying = new HashSet<>();
        Set<List<Integer>> falling = new HashSet<>();
    }

    private State state = new State();
    private final List<State> saved = new ArrayList<>();
    private String buffer = "";

    private void save() {
        saved.add(state.copy());
        if (saved.size() > 6) {
            saved.remove(0);
        }
    }

    private static void index(boolean there) {
        if (!there) {
            throw new IndexOutOfBoundsException();
        }
    }

    private static void argument(boolean good) {
        if (!good) {
            throw new IllegalArgumentException();
        }
    }

    private static void state(boolean good) {
        if (!good) {
            throw new IllegalStateException();
        }
    }

    private Town at(int town) {
        index(0 <= town && town < state.towns.size());
        return state.towns.get(town);
    }

    private static List<Integer> pin(int step, int tooth) {
        index(0 <= step && step <= 23 && 0 <= tooth && tooth <= 11);
        return List.of(step, tooth);
    }

    private Outcome playing(Town town) {
        Outcome outcome = new Outcome();
        for (int tooth = 0; tooth < 12; tooth++) {
            Integer last = null;
            for (int step = 0; step < 24; step++) {
                List<Integer> pin = pin(step, tooth);
                if (!town.drum.contains(pin)) {
                    continue;
                }
                if (town.wear[tooth] >= state.settings[1]) {
                    outcome.falling.add(pin);
                } else if (last != null && step < last + state.settings[0]) {
                    outcome.staying.add(pin);
                } else {
                    outcome.sounding.add(pin);
                    last = step;
                    town.wear[tooth]++;
                }
            }
        }
        town.drum.removeAll(outcome.falling);
        town.box += outcome.falling.size();
        town.plays++;
        town.sounds += outcome.sounding.size();
        town.fallen += outcome.falling.size();
        return outcome;
    }

    public int addTown(int pins) {
        argument(0 <= pins && pins <= 200);
        state(state.towns.size() < 6 && pins <= state.settings[2]);
        save();
        Town town = new Town();
        town.box = pins;
        state.towns.add(town);
        return state.towns.size() - 1;
    }

    public int set(int setting, int value) {
        int[][] ranges = {{0, 24}, {1, 100}, {1, 999}};
        index(0 <= setting && setting <= 2);
        argument(ranges[setting][0] <= value && value <= ranges[setting][1]);
        save();
        int old = state.settings[setting];
        state.settings[setting] = value;
        return old;
    }

    public int put(int town, int step, int tooth) {
        Town at = at(town);
        List<Integer> pin = pin(step, tooth);
        state(!at.drum.contains(pin) && at.box > 0);
        save();
        at.drum.add(pin);
        at.box--;
        return at.drum.size();
    }

    public int pull(int town, int step, int tooth) {
        Town at = at(town);
        List<Integer> pin = pin(step, tooth);
        state(at.drum.contains(pin) && at.box < state.settings[2]);
        save();
        at.drum.remove(pin);
        return ++at.box;
    }

    public int move(int from, int to, int step, int tooth) {
        Town giver = at(from);
        Town taker = at(to);
        List<Integer> pin = pin(step, tooth);
        argument(from != to);
        state(giver.drum.contains(pin) && !taker.drum.contains(pin));
        save();
        giver.drum.remove(pin);
        taker.drum.add(pin);
        return taker.drum.size();
    }

    public int trade(int one, int other) {
        Town first = at(one);
        Town second = at(other);
        argument(one != other);
        save();
        Set<List<Integer>> drum = first.drum;
        first.drum = second.drum;
        second.drum = drum;
        return first.right(first.drum) + second.right(second.drum);
    }

    private static Set<List<Integer>> turned(Set<List<Integer>> drum, int by) {
        Set<List<Integer>> turned = new HashSet<>();
        for (List<Integer> pin : drum) {
            turned.add(List.of((pin.get(0) + by) % 24, pin.get(1)));
        }
        return turned;
    }

    public int turn(int town, int by) {
        Town at = at(town);
        argument(0 <= by && by <= 23);
        save();
        at.drum = turned(at.drum, by);
        return at.right(at.drum);
    }

    public int file(int town, int tooth) {
        Town at = at(town);
        pin(0, tooth);
        save();
        int had = at.wear[tooth];
        at.wear[tooth] = 0;
        return had;
    }

    public int play(int town) {
        Town at = at(town);
        save();
        return playing(at).sounding.size();
    }

    public int lend(int from, int to, int pins) {
        Town lender = at(from);
        Town taker = at(to);
        argument(from != to && 1 <= pins && pins <= 200);
        state(lender.box >= pins && taker.box + pins <= state.settings[2]);
        save();
        lender.box -= pins;
        taker.box += pins;
        state.lent += pins;
        return state.owes[to][from] += pins;
    }

    public int repay(int from, int to, int pins) {
        Town payer = at(from);
        Town taker = at(to);
        argument(from != to && 1 <= pins && pins <= 200);
        state(state.owes[from][to] >= pins && payer.box >= pins && taker.box + pins <= state.settings[2]);
        save();
        payer.box -= pins;
        taker.box += pins;
        state.repaid += pins;
        return state.owes[from][to] -= pins;
    }

    /** All rows of different towns that are rings, by a key in whose order they come. */
    private void gather(List<Integer> row, TreeMap<String, List<Integer>> found) {
        int size = row.size();
        if (size >= 2 && state.owes[row.get(size - 1)][row.get(0)] > 0) {
            found.put(size + row.toString(), new ArrayList<>(row));
        }
        for (int i = 0; i < state.towns.size(); i++) {
            boolean owed = size == 0 || state.owes[row.get(size - 1)][i] > 0 && i > row.get(0);
            if (owed && !row.contains(i)) {
                row.add(i);
                gather(row, found);
                row.remove(size);
            }
        }
    }

    private List<Integer> firstRing() {
        TreeMap<String, List<Integer>> found = new TreeMap<>();
        gather(new ArrayList<>(), found);
        return found.isEmpty() ? List.of() : found.firstEntry().getValue();
    }

    private int least(List<Integer> ring) {
        int least = Integer.MAX_VALUE;
        for (int i = 0; i < ring.size(); i++) {
            least = Math.min(least, state.owes[ring.get(i)][ring.get((i + 1) % ring.size())]);
        }
        return least;
    }

    public int settle() {
        save();
        int taken = 0;
        for (List<Integer> ring = firstRing(); !ring.isEmpty(); ring = firstRing()) {
            int before = count(3);
            int least = least(ring);
            for (int i = 0; i < ring.size(); i++) {
                state.owes[ring.get(i)][ring.get((i + 1) % ring.size())] -= least;
            }
            state.rings++;
            state.settled += before - count(3);
            taken++;
        }
        return taken;
    }

    public int append(int code) {
        argument(33 <= code && code <= 126);
        state(buffer.length() < 60);
        buffer += (char) code;
        return buffer.length();
    }

    public int clearBuffer() {
        int had = buffer.length();
        buffer = "";
        return had;
    }

    public int firstError() {
        for (int i = 0; i < buffer.length(); i++) {
            String start = buffer.substring(0, i + 1);
            if (!WHOLE_STEPS.matcher(start).matches() && !OPEN_STEP.matcher(start).matches()) {
                return i;
            }
        }
        return buffer.length();
    }

    public int learn(int town) {
        Town at = at(town);
        argument(TUNE.matcher(buffer).matches());
        save();
        at.tune = new HashSet<>();
        int step = 0;
        boolean inside = false;
        for (char c : buffer.toCharArray()) {
            inside = c == '(' || inside && c != ')';
            if (c >= 'a') {
                at.tune.add(pin(step, c - 'a'));
            }
            step += inside ? 0 : 1;
        }
        buffer = "";
        return at.tune.size();
    }

    public int undo() {
        state(!saved.isEmpty());
        state = saved.remove(saved.size() - 1);
        return saved.size();
    }

    public int town(int town, int what) {
        Town at = at(town);
        argument(0 <= what && what <= 11);
        int owes = 0;
        int owed = 0;
        int dull = 0;
        for (int i = 0; i < 6; i++) {
            owes += state.owes[town][i];
            owed += state.owes[i][town];
        }
        for (int wear : at.wear) {
            dull += wear >= state.settings[1] ? 1 : 0;
        }
        Set<List<Integer>> wrong = new HashSet<>(at.drum);
        wrong.removeAll(at.tune);
        Set<List<Integer>> missing = new HashSet<>(at.tune);
        missing.removeAll(at.drum);
        int[] all = {at.box, at.drum.size(), at.tune.size(), at.right(at.drum), wrong.size(), missing.size(),
            owes, owed, at.plays, at.sounds, at.fallen, dull};
        return all[what];
    }

    public int step(int town, int step, int what) {
        Town at = at(town);
        pin(step, 0);
        argument(0 <= what && what <= 2);
        Set<List<Integer>> pins = what == 0 ? at.drum : what == 1 ? at.tune : playing(at.copy()).sounding;
        int mask = 0;
        for (List<Integer> pin : pins) {
            mask += pin.get(0) == step ? 1 << pin.get(1) : 0;
        }
        return mask;
    }

    public int wear(int town, int tooth) {
        Town at = at(town);
        pin(0, tooth);
        return at.wear[tooth];
    }

    public int debt(int from, int to) {
        at(from);
        at(to);
        return from == to ? 0 : state.owes[from][to];
    }

    public int count(int what) {
        argument(0 <= what && what <= 10);
        int boxes = 0;
        int drums = 0;
        int right = 0;
        int debts = 0;
        int pairs = 0;
        for (Town town : state.towns) {
            boxes += town.box;
            drums += town.drum.size();
            right += town.right(town.drum);
        }
        for (int[] row : state.owes) {
            for (int owed : row) {
                debts += owed;
                pairs += owed > 0 ? 1 : 0;
            }
        }
        int[] all = {state.towns.size(), boxes + drums, boxes, debts, pairs, state.lent, state.repaid,
            state.rings, state.settled, right, saved.size()};
        return all[what];
    }

    public int setting(int setting) {
        index(0 <= setting && setting <= 2);
        return state.settings[setting];
    }

    public int ifPlayed(int town, int what) {
        Town copy = at(town).copy();
        argument(0 <= what && what <= 4);
        Outcome outcome = playing(copy);
        int dull = 0;
        for (int wear : copy.wear) {
            dull += wear >= state.settings[1] ? 1 : 0;
        }
        int[] all = {outcome.sounding.size(), outcome.staying.size(), outcome.falling.size(),
            copy.right(outcome.sounding), dull};
        return all[what];
    }

    public int lastsFor(int town) {
        Town copy = at(town).copy();
        for (int n = 1; n <= 200; n++) {
            if (copy.right(playing(copy).falling) > 0) {
                return n;
            }
        }
        return -1;
    }

    public int bestTurn(int town, int what) {
        Town at = at(town);
        argument(what == 0 || what == 1);
        int best = 23;
        for (int by = 22; by >= 0; by--) {
            if (at.right(turned(at.drum, by)) >= at.right(turned(at.drum, best))) {
                best = by;
            }
        }
        return what == 0 ? best : at.right(turned(at.drum, best));
    }

    public int bestDrum(int town) {
        Town at = at(town);
        int best = -1;
        for (int i = state.towns.size() - 1; i >= 0; i--) {
            boolean better = best < 0 || at.right(state.towns.get(i).drum) >= at.right(state.towns.get(best).drum);
            if (i != town && better) {
                best = i;
            }
        }
        return best;
    }

    /** All orders of the drums, the lowest one first. */
    private void orders(List<Integer> order, List<List<Integer>> all) {
        if (order.size() == state.towns.size()) {
            all.add(new ArrayList<>(order));
        }
        for (int i = 0; i < state.towns.size(); i++) {
            if (!order.contains(i)) {
                order.add(i);
                orders(order, all);
                order.remove(order.size() - 1);
            }
        }
    }

    public int bestTrades(int what) {
        argument(what == 0 || 10 <= what && what <= 15);
        List<List<Integer>> all = new ArrayList<>();
        orders(new ArrayList<>(), all);
        int[][] right = new int[6][6];
        for (int i = 0; i < state.towns.size(); i++) {
            for (int j = 0; j < state.towns.size(); j++) {
                right[i][j] = state.towns.get(i).right(state.towns.get(j).drum);
            }
        }
        int most = -1;
        List<Integer> best = List.of();
        for (List<Integer> order : all) {
            int brought = 0;
            for (int i = 0; i < order.size(); i++) {
                brought += right[i][order.get(i)];
            }
            if (brought > most) {
                most = brought;
                best = order;
            }
        }
        return what == 0 ? most : what - 10 < best.size() ? best.get(what - 10) : -1;
    }

    public int ring(int what) {
        argument(what == 0 || what == 1 || 10 <= what && what <= 15);
        List<Integer> ring = firstRing();
        if (ring.isEmpty()) {
            return -1;
        }
        if (what < 2) {
            return what == 0 ? ring.size() : least(ring);
        }
        return what - 10 < ring.size() ? ring.get(what - 10) : -1;
    }

    public double tuneShare() {
        int needed = 0;
        for (Town town : state.towns) {
            needed += town.tune.size();
        }
        return needed == 0 ? 0.0 : (double) count(9) / needed;
    }

    public long digest() {
        List<Long> values = new ArrayList<>();
        for (int what = 0; what <= 10; what++) {
            values.add((long) count(what));
        }
        for (int setting : state.settings) {
            values.add((long) setting);
        }
        for (int i = 0; i < state.towns.size(); i++) {
            addTown(values, i);
        }
        for (int what : new int[] {0, 10, 11, 12, 13, 14, 15}) {
            values.add((long) bestTrades(what));
        }
        for (int what : new int[] {0, 1, 10, 11, 12, 13, 14, 15}) {
            values.add((long) ring(what));
        }
        values.add(Double.doubleToLongBits(tuneShare()));
        values.add((long) buffer.length());
        for (char c : buffer.toCharArray()) {
            values.add((long) c);
        }
        long hash = 2357;
        for (long value : values) {
            hash = 31 * hash + value;
        }
        return hash;
    }

    private void addTown(List<Long> values, int town) {
        for (int what = 0; what <= 11; what++) {
            values.add((long) town(town, what));
        }
        for (int what = 0; what <= 4; what++) {
            values.add((long) ifPlayed(town, what));
        }
        values.add((long) lastsFor(town));
        values.add((long) bestTurn(town, 0));
        values.add((long) bestTurn(town, 1));
        values.add((long) bestDrum(town));
        for (int wear : state.towns.get(town).wear) {
            values.add((long) wear);
        }
        for (int other = 0; other < state.towns.size(); other++) {
            values.add((long) debt(town, other));
        }
        for (int step = 0; step < 24; step++) {
            for (int what = 0; what <= 2; what++) {
                values.add((long) step(town, step, what));
            }
        }
    }
}
