import java.util.ArrayDeque;
import java.util.ArrayList;
import java.util.Deque;
import java.util.List;
import java.util.Random;
import java.util.TreeSet;

/**
 * Holds long runs of calls against a plain model of the document that tries everything:
 * every plan by counting through all deals, every order by all rows, every set of washes.
 */
public final class ModelTest {
    private static final int OBJECTS = 2500;
    private static final int ACTS = 60;

    public static void main(String[] args) {
        Random random = new Random(20261118);
        int[] seen = new int[8];
        TankerDesk desk = new TankerDesk();
        for (int i = 0; i < OBJECTS; i++) {
            // Half of the texts are told to a desk that has been used: nothing of the former one may be left.
            desk = random.nextBoolean() ? new TankerDesk() : desk;
            run(random, i, desk, seen);
        }
        String[] names = {"plans of two and more", "no plan", "washes of one and more", "no washes", "no order",
            "some orders of all", "loads", "unloads"};
        for (int i = 0; i < seen.length; i++) {
            Check.due("met often: " + names[i] + " (" + seen[i] + ")", seen[i] >= 50, true);
        }
        Check.finish();
    }

    private static void run(Random random, int number, TankerDesk desk, int[] seen) {
        Model model = new Model(random);
        Check.due(number + " text", Check.tell(desk, model.text()), model.lines());
        for (int call = 0; call < ACTS; call++) {
            String name = number + "." + call + " ";
            act(random, name, model, desk);
            if (random.nextInt(20) == 0) {
                spoiltText(random, name, desk);
            }
            if (call % 3 == 0) {
                ask(random, name, model, desk, seen);
            }
        }
        seen[6] += model.loads;
        seen[7] += model.unloads;
    }

    /** Another text whose last sign is wanting: all stays. */
    private static void spoiltText(Random random, String name, TankerDesk desk) {
        String text = new Model(random).text().trim();
        int place = text.length() - 1;
        Check.due(name + "a text that ends too early", Check.tell(desk, text.substring(0, place)), -1 - place);
        Check.due(name + "its fault", desk.fault(), 1);
    }

    private static int any(Random random, int bound) {
        return random.nextInt(12) == 0 ? random.nextInt(bound + 4) - 2 : random.nextInt(Math.max(bound, 1));
    }

    private static void act(Random random, String name, Model m, TankerDesk desk) {
        int c = any(random, m.caps.length);
        int d = random.nextInt(3) > 0 ? m.drops.size() - 1 - random.nextInt(5) : any(random, m.drops.size());
        switch (random.nextInt(11)) {
            case 0: case 1:
                int liquid = any(random, m.densities.length);
                int quantity = random.nextInt(15) == 0 ? random.nextInt(6000) - 500 : 1 + random.nextInt(m.usual);
                Check.due(name + "asks", desk.asks(liquid, quantity), m.asks(liquid, quantity));
                break;
            case 2:
                Check.due(name + "cancel", desk.cancel(d), m.cancel(d));
                break;
            case 3: case 4:
                Check.due(name + "put", desk.put(c, d), m.put(c, d));
                break;
            case 5:
                Check.due(name + "load", desk.load(), m.load());
                break;
            case 6: case 7:
                int metered = random.nextInt(m.usual + 2) - 1;
                Check.due(name + "unload", desk.unload(d, metered), m.unload(d, metered));
                break;
            case 8:
                Check.due(name + "empty", desk.empty(c), m.empty(c));
                break;
            case 9:
                Check.due(name + "wash", desk.wash(c), m.wash(c));
                break;
            default:
                Check.due(name + "undo", desk.undo(), m.undo());
        }
    }

    private static void ask(Random random, String name, Model m, TankerDesk desk, int[] seen) {
        Check.due(name + "now(2)", desk.now(2), m.drops.size());
        Check.due(name + "now(3)", desk.now(3), m.bars.size());
        Check.due(name + "now(4)", desk.now(4), m.front());
        Check.due(name + "now(5)", desk.now(5), m.rear());
        Check.due(name + "now(6)", desk.now(6), m.stands());
        Check.due(name + "now(7)", desk.now(7), m.washed);
        Check.due(name + "now(8)", desk.now(8), m.undone.size());
        for (int c = 0; c < m.caps.length; c++) {
            Check.due(name + "TOP", desk.compartment(c, 3), m.top(c));
            Check.due(name + "held", desk.compartment(c, 4), m.held[c]);
            Check.due(name + "owner", desk.compartment(c, 5), m.owner[c]);
            Check.due(name + "LAST", desk.compartment(c, 6), m.last[c]);
        }
        for (int d = 0; d < m.drops.size(); d++) {
            int[] drop = m.drops.get(d);
            int[] want = {drop[0], drop[1], m.loaded(d), m.how(d), drop[3], drop[2] == 2 ? drop[1] - drop[3] : 0};
            for (int what = 0; what < 6; what++) {
                Check.due(name + "drop(" + d + ", " + what + ")", Check.drop(desk, d, what), want[what]);
            }
        }
        int c = any(random, m.caps.length);
        int liquid = any(random, m.densities.length);
        int quantity = random.nextInt(m.usual + 2) - 1;
        Check.due(name + "may", desk.may(c, liquid), m.may(c, liquid));
        Check.due(name + "would", desk.would(c, liquid, quantity), m.would(c, liquid, quantity));
        int d = any(random, m.drops.size());
        Check.due(name + "without", desk.without(d), m.without(d));
        List<int[]> orders = m.orders();
        Check.due(name + "orders", desk.orders(), orders.size());
        for (int k = -1; k <= 5; k++) {
            int want = orders.isEmpty() || k < 0 || k >= orders.get(0).length ? -1 : orders.get(0)[k];
            Check.due(name + "ordered(" + k + ")", desk.ordered(k), want);
        }
        int[] plan = m.plan(0);
        for (int what = -1; what <= 26; what++) {
            Check.due(name + "plan(" + what + ")", desk.plan(what), m.planAnswer(plan, what));
        }
        int washes = m.washes();
        Check.due(name + "washes", desk.washes(), washes);
        int aboard = orders.isEmpty() ? 0 : orders.get(0).length;
        count(seen, plan, washes, orders.size(), aboard);
    }

    private static void count(int[] seen, int[] plan, int washes, int orders, int aboard) {
        seen[0] += plan != null && plan[0] >= 2 ? 1 : 0;
        seen[1] += plan == null ? 1 : 0;
        seen[2] += washes >= 1 ? 1 : 0;
        seen[3] += washes == -2 ? 1 : 0;
        seen[4] += orders == 0 ? 1 : 0;
        seen[5] += aboard >= 3 && orders > 0 && orders < 6 ? 1 : 0;
    }

    /** The document's words, in their plainest form. */
    private static final class Model {
        int[] head;
        int[] caps;
        int[] xs;
        boolean[] open;
        int[] densities;
        TreeSet<Integer> bars = new TreeSet<>();
        String tail = "";
        int usual;
        int loads;
        int unloads;

        int[] held;
        int[] owner;
        int[] last;
        /** LIQUID, QUANTITY, 2 or 3 if DONE or CANCELLED, metered. */
        List<int[]> drops = new ArrayList<>();
        int washed;
        Deque<Object[]> undone = new ArrayDeque<>();

        Model(Random random) {
            int n = random.nextInt(8) == 0 ? random.nextInt(5) : 3 + random.nextInt(3);
            int biggest = random.nextBoolean() ? 12 : 1 + random.nextInt(999);
            caps = new int[n];
            xs = new int[n];
            open = new boolean[n];
            int w = 1 + random.nextInt(99);
            int room = 0;
            for (int c = 0; c < n; c++) {
                caps[c] = 1 + random.nextInt(biggest);
                xs[c] = random.nextInt(5) == 0 ? random.nextInt(100) : random.nextInt(w + 1);
                open[c] = random.nextInt(3) == 0;
                room += caps[c];
                tail += "compartment " + caps[c] + " " + xs[c] + (open[c] ? " open" : " baffled") + ";\n";
            }
            usual = Math.max(1, Math.min(4995, room * 2 / (2 + random.nextInt(4))));
            int liquids = 1 + random.nextInt(random.nextInt(3) == 0 ? 6 : 3);
            densities = new int[liquids];
            for (int l = 0; l < liquids; l++) {
                densities[l] = 1 + random.nextInt(random.nextBoolean() ? 3 : 20);
                tail += "liquid " + densities[l] + ";";
            }
            head(random, w, room * 2);
            told(random, n, liquids);
            held = new int[n];
            owner = new int[n];
            java.util.Arrays.fill(owner, -1);
        }

        private void head(Random random, int w, int about) {
            boolean tight = random.nextInt(3) > 0;
            int front = random.nextInt(200);
            int rear = random.nextInt(200);
            int least = tight ? Math.max(0, front - random.nextInt(about / 4 + 3)) : 0;
            int most = tight ? Math.min(9999, front + random.nextInt(about + 2)) : 9999;
            int hind = tight ? Math.min(9999, rear + random.nextInt(about + 2)) : 9999;
            if (random.nextInt(10) == 0) {
                least = Math.min(9999, front + random.nextInt(about / 4 + 3));
            }
            int fill = random.nextBoolean() ? 100 : 1 + random.nextInt(100);
            int low = random.nextInt(2) == 0 ? 0 : random.nextInt(101);
            int high = low + random.nextInt(101 - low);
            head = new int[] {w, front, rear, least, most, hind, fill, low, high};
        }

        private void told(Random random, int n, int liquids) {
            int count = random.nextInt(liquids * liquids + 1);
            for (int i = 0; i < count; i++) {
                int a = random.nextInt(liquids);
                int b = random.nextInt(liquids);
                bars.add(a * 10 + b);
                tail += "bar " + a + " " + b + ";";
            }
            last = new int[n];
            java.util.Arrays.fill(last, -1);
            for (int i = random.nextInt(n + 1); i > 0; i--) {
                int c = random.nextInt(n);
                last[c] = random.nextInt(liquids);
                tail += "last " + c + " " + last[c] + " ;";
            }
            for (int i = random.nextInt(5); i > 0; i--) {
                int liquid = random.nextInt(liquids);
                int quantity = 1 + random.nextInt(usual);
                drops.add(new int[] {liquid, quantity, 0, 0});
                tail += "drop " + liquid + " " + quantity + ";";
            }
        }

        String text() {
            StringBuilder all = new StringBuilder("tanker");
            for (int number : head) {
                all.append(' ').append(number);
            }
            return all.append(";").append(tail).toString();
        }

        /** Each line ends with a sign, and nothing else has one. */
        int lines() {
            return text().split(";", -1).length - 1;
        }

        int top(int c) {
            return caps[c] * head[6] / 100;
        }

        int front() {
            int sum = head[1] * head[0];
            for (int c = 0; c < caps.length; c++) {
                sum += held[c] == 0 ? 0 : held[c] * densities[last[c]] * (head[0] - xs[c]);
            }
            return sum;
        }

        int rear() {
            int sum = head[2] * head[0];
            for (int c = 0; c < caps.length; c++) {
                sum += held[c] == 0 ? 0 : held[c] * densities[last[c]] * xs[c];
            }
            return sum;
        }

        int stands() {
            for (int c = 0; c < caps.length; c++) {
                double part = held[c] / (double) caps[c] * 100;
                // Far from the bounds the plain quotient would do; at them it is not exact.
                boolean above = Math.abs(part - head[7]) > 1e-6 && part > head[7];
                boolean below = Math.abs(part - head[8]) > 1e-6 && part < head[8];
                if (open[c] && held[c] != 0 && above && below) {
                    return 1;
                }
            }
            if (front() > head[4] * head[0]) {
                return 2;
            }
            if (front() < head[3] * head[0]) {
                return 3;
            }
            return rear() > head[5] * head[0] ? 4 : 0;
        }

        boolean isCompartment(int c) {
            return c >= 0 && c < caps.length;
        }

        boolean isDrop(int d) {
            return d >= 0 && d < drops.size();
        }

        int loaded(int d) {
            int sum = 0;
            for (int c = 0; c < caps.length; c++) {
                sum += owner[c] == d ? held[c] : 0;
            }
            return sum;
        }

        int how(int d) {
            if (drops.get(d)[2] != 0) {
                return drops.get(d)[2];
            }
            return loaded(d) == drops.get(d)[1] ? 1 : 0;
        }

        List<Integer> allThat(int how) {
            List<Integer> all = new ArrayList<>();
            for (int d = 0; d < drops.size(); d++) {
                if (how(d) == how) {
                    all.add(d);
                }
            }
            return all;
        }

        boolean mayCome(int lastOne, int liquid) {
            return lastOne == -1 || !bars.contains(lastOne * 10 + liquid);
        }

        boolean may(int c, int liquid) {
            return isCompartment(c) && liquid >= 0 && liquid < densities.length && mayCome(last[c], liquid);
        }

        int would(int c, int liquid, int quantity) {
            if (!isCompartment(c) || liquid < 0 || liquid >= densities.length || quantity < 0 || quantity > caps[c]) {
                return -1;
            }
            int[] heldNow = held.clone();
            int[] lastNow = last.clone();
            held[c] = quantity;
            last[c] = liquid;
            int answer = stands();
            held = heldNow;
            last = lastNow;
            return answer;
        }

        int without(int d) {
            if (!isDrop(d) || how(d) != 1) {
                return -1;
            }
            int[] heldNow = held.clone();
            takeOut(d);
            int answer = stands();
            held = heldNow;
            return answer;
        }

        void takeOut(int d) {
            for (int c = 0; c < caps.length; c++) {
                held[c] = owner[c] == d ? 0 : held[c];
            }
        }

        List<int[]> orders() {
            List<int[]> found = new ArrayList<>();
            List<Integer> aboard = allThat(1);
            follow(aboard, new int[aboard.size()], 0, found);
            return found;
        }

        void follow(List<Integer> left, int[] row, int k, List<int[]> found) {
            if (left.isEmpty()) {
                found.add(row.clone());
            }
            for (int i = 0; i < left.size(); i++) {
                int[] heldNow = held.clone();
                row[k] = left.get(i);
                takeOut(left.get(i));
                if (stands() == 0) {
                    List<Integer> rest = new ArrayList<>(left);
                    rest.remove(i);
                    follow(rest, row, k + 1, found);
                }
                held = heldNow;
            }
        }

        /** How many are served, how many compartments get one, then drops and amounts; null: no plan. */
        int[] plan(int washes) {
            List<Integer> waiting = allThat(0);
            int n = caps.length;
            int base = waiting.size() + 1;
            int all = (int) Math.round(Math.pow(base, n));
            int[] best = null;
            for (int code = 0; code < all; code++) {
                int[] deal = new int[n];
                int rest = code;
                boolean fits = true;
                for (int c = n - 1; c >= 0; c--) {
                    deal[c] = rest % base == base - 1 ? -1 : waiting.get(rest % base);
                    rest /= base;
                    fits &= held[c] == 0 || deal[c] == -1;
                }
                int[] tried = fits ? tried(deal, waiting, washes) : null;
                if (tried != null && (best == null || tried[0] > best[0] || tried[0] == best[0] && tried[1] < best[1])) {
                    best = tried;
                }
            }
            return best;
        }

        int[] tried(int[] deal, List<Integer> waiting, int washes) {
            int n = caps.length;
            int[] plan = new int[2 + 2 * n];
            for (int d : waiting) {
                int lacks = drops.get(d)[1] - loaded(d);
                boolean served = false;
                for (int c = 0; c < n; c++) {
                    if (deal[c] == d) {
                        served = true;
                        int amount = Math.min(top(c), lacks);
                        boolean may = (washes >> c & 1) == 1 || mayCome(last[c], drops.get(d)[0]);
                        if (amount == 0 || !may) {
                            return null;
                        }
                        lacks -= amount;
                        plan[1]++;
                        plan[2 + n + c] = amount;
                    }
                }
                if (served && lacks > 0) {
                    return null;
                }
                plan[0] += served ? 1 : 0;
            }
            System.arraycopy(deal, 0, plan, 2, n);
            return isLawful(plan) ? plan : null;
        }

        boolean isLawful(int[] plan) {
            int[] heldNow = held.clone();
            int[] ownerNow = owner.clone();
            int[] lastNow = last.clone();
            carryOut(plan);
            boolean answer = stands() == 0 && !orders().isEmpty();
            held = heldNow;
            owner = ownerNow;
            last = lastNow;
            return answer;
        }

        void carryOut(int[] plan) {
            int n = caps.length;
            for (int c = 0; c < n; c++) {
                if (plan[2 + c] != -1) {
                    owner[c] = plan[2 + c];
                    held[c] = plan[2 + n + c];
                    last[c] = drops.get(owner[c])[0];
                }
            }
        }

        int planAnswer(int[] plan, int what) {
            int n = caps.length;
            if (plan == null) {
                return -2;
            }
            if (what == 0 || what == 1) {
                return plan[what];
            }
            if (isCompartment(what - 10)) {
                return plan[2 + what - 10];
            }
            return isCompartment(what - 20) ? plan[2 + n + what - 20] : -1;
        }

        int washes() {
            int waiting = allThat(0).size();
            int fewest = -2;
            for (int set = 0; set < 1 << caps.length; set++) {
                boolean allEmpty = true;
                boolean useful = true;
                for (int c = 0; c < caps.length; c++) {
                    allEmpty &= (set >> c & 1) == 0 || held[c] == 0;
                    useful &= (set >> c & 1) == 0 || last[c] != -1;
                }
                boolean fewer = fewest == -2 || Integer.bitCount(set) < fewest;
                if (allEmpty && useful && fewer) {
                    int[] plan = plan(set);
                    fewest = plan != null && plan[0] == waiting ? Integer.bitCount(set) : fewest;
                }
            }
            return fewest;
        }

        void keep() {
            List<int[]> copies = new ArrayList<>();
            for (int[] drop : drops) {
                copies.add(drop.clone());
            }
            undone.push(new Object[] {held.clone(), owner.clone(), last.clone(), copies, washed});
            if (undone.size() > 10) {
                undone.removeLast();
            }
        }

        @SuppressWarnings("unchecked")
        int undo() {
            if (undone.isEmpty()) {
                return -1;
            }
            Object[] kept = undone.pop();
            held = (int[]) kept[0];
            owner = (int[]) kept[1];
            last = (int[]) kept[2];
            drops = (List<int[]>) kept[3];
            washed = (Integer) kept[4];
            return undone.size();
        }

        int asks(int liquid, int quantity) {
            if (liquid < 0 || liquid >= densities.length || quantity < 1 || quantity > 4995) {
                return -1;
            }
            if (allThat(0).size() == 4) {
                return -2;
            }
            if (drops.size() == 20) {
                return -3;
            }
            keep();
            drops.add(new int[] {liquid, quantity, 0, 0});
            return drops.size() - 1;
        }

        boolean cancel(int d) {
            if (!isDrop(d) || how(d) != 0 || loaded(d) != 0) {
                return false;
            }
            keep();
            drops.get(d)[2] = 3;
            return true;
        }

        int put(int c, int d) {
            if (!isCompartment(c) || !isDrop(d) || how(d) != 0) {
                return -1;
            }
            if (held[c] != 0) {
                return -2;
            }
            if (!may(c, drops.get(d)[0])) {
                return -3;
            }
            if (top(c) == 0) {
                return -4;
            }
            keep();
            int amount = Math.min(top(c), drops.get(d)[1] - loaded(d));
            held[c] = amount;
            owner[c] = d;
            last[c] = drops.get(d)[0];
            return amount;
        }

        int load() {
            int[] plan = plan(0);
            if (plan == null) {
                return -2;
            }
            if (plan[0] == 0) {
                return -1;
            }
            keep();
            carryOut(plan);
            loads++;
            return plan[0];
        }

        int unload(int d, int metered) {
            if (!isDrop(d) || how(d) != 1 || metered < 0 || metered > loaded(d)) {
                return -1;
            }
            if (without(d) != 0) {
                return -2;
            }
            keep();
            int all = loaded(d);
            for (int c = 0; c < caps.length; c++) {
                if (owner[c] == d) {
                    held[c] = 0;
                    owner[c] = -1;
                }
            }
            drops.get(d)[2] = 2;
            drops.get(d)[3] = metered;
            unloads++;
            return all - metered;
        }

        int empty(int c) {
            if (!isCompartment(c) || held[c] == 0) {
                return -1;
            }
            if (how(owner[c]) == 1 && allThat(0).size() == 4) {
                return -2;
            }
            keep();
            int amount = held[c];
            held[c] = 0;
            owner[c] = -1;
            return amount;
        }

        boolean wash(int c) {
            if (!isCompartment(c) || held[c] != 0 || last[c] == -1) {
                return false;
            }
            keep();
            last[c] = -1;
            washed++;
            return true;
        }
    }
}
