import java.util.ArrayList;
import java.util.List;

/**
 * Long runs of calls against a second telling of the document, written the slow and plain way: lists instead of
 * bits, all orders and all rings tried, each limit tried. Texts and calls are drawn by a fixed rule, so each run
 * of this test is the same.
 */
public final class ModelTest {
    private static long number = 20261118;

    private static int draw(int modulo) {
        number = number * 6364136223846793005L + 1442695040888963407L;
        return (int) ((number >>> 33) % modulo);
    }

    private static int pick(int... these) {
        return these[draw(these.length)];
    }

    static final class MRail {
        int parent, level, ramp, charge, load, limit;
        int state, volts, rose, drawn, low, began = -2, trips, retries, again = -2;
        boolean over, tripped;
        List<Integer> needs = new ArrayList<>();

        MRail copy() {
            MRail c = new MRail();
            c.parent = parent; c.level = level; c.ramp = ramp; c.charge = charge; c.load = load; c.limit = limit;
            c.state = state; c.volts = volts; c.rose = rose; c.drawn = drawn; c.low = low; c.began = began;
            c.trips = trips; c.retries = retries; c.again = again; c.over = over; c.tripped = tripped;
            c.needs = needs;
            return c;
        }
    }

    static final class Model {
        List<MRail> rails = new ArrayList<>();
        List<int[]> steps = new ArrayList<>();
        int droop = 50, fall = 500, low = 90, filter = 1, times = 0, hold = 10, budget = 99999, seed = 0;
        List<Integer> waiting = new ArrayList<>(), row = new ArrayList<>();
        List<int[]> log = new ArrayList<>();
        int tick, total, mode, step, stay;

        Model copy() {
            Model c = new Model();
            for (MRail r : rails) c.rails.add(r.copy());
            c.steps = steps;
            c.droop = droop; c.fall = fall; c.low = low; c.filter = filter; c.times = times; c.hold = hold;
            c.budget = budget; c.seed = seed;
            c.waiting.addAll(waiting); c.row.addAll(row); c.log.addAll(log);
            c.tick = tick; c.total = total; c.mode = mode; c.step = step; c.stay = stay;
            return c;
        }

        boolean good(int i) {
            MRail r = rails.get(i);
            return r.state == 3 && (long) r.volts * 100 >= (long) r.level * low;
        }

        List<Integer> directly(int i) {
            List<Integer> all = new ArrayList<>(rails.get(i).needs);
            if (rails.get(i).parent >= 0 && !all.contains(rails.get(i).parent)) all.add(rails.get(i).parent);
            java.util.Collections.sort(all);
            return all;
        }

        boolean hangs(int i, int on) {
            boolean[] seen = new boolean[12];
            List<Integer> open = new ArrayList<>(directly(i));
            while (!open.isEmpty()) {
                int at = open.remove(open.size() - 1);
                if (at == on) return true;
                if (!seen[at]) {
                    seen[at] = true;
                    open.addAll(directly(at));
                }
            }
            return false;
        }

        boolean on(int i) {
            return rails.get(i).state == 2 || rails.get(i).state == 3;
        }

        void write(int rail, int what) {
            log.add(0, new int[] {tick, rail, what});
        }

        void ask(int i, boolean off) {
            MRail r = rails.get(i);
            r.again = -2;
            r.retries = 0;
            r.tripped = false;
            if (!off && r.state == 0) {
                r.state = 1;
                waiting.add(i);
            } else if (off && r.state == 1) {
                r.state = 0;
                waiting.remove((Integer) i);
            } else if (off && on(i)) {
                unwindWith(i);
            }
        }

        void unwindWith(int i) {
            List<Integer> set = new ArrayList<>();
            for (int j = 0; j < rails.size(); j++) if (j == i || hangs(j, i)) set.add(j);
            unwind(set);
        }

        void unwind(List<Integer> set) {
            List<Integer> going = new ArrayList<>();
            for (int j : set) {
                if (rails.get(j).state == 1) {
                    rails.get(j).state = 0;
                    waiting.remove((Integer) j);
                } else if (on(j) && !row.contains(j)) {
                    going.add(j);
                    rails.get(j).tripped = false;
                }
            }
            going.sort((a, b) -> rails.get(a).began != rails.get(b).began
                ? rails.get(b).began - rails.get(a).began : b - a);
            row.addAll(going);
        }

        void trip(int i) {
            rails.get(i).trips++;
            write(i, 2);
            unwindWith(i);
            rails.get(i).tripped = true;
            if (mode == 1) {
                mode = 3;
                write(-2, 5);
            }
        }

        void tick() {
            tick++;
            for (int i = 0; i < rails.size(); i++) {
                MRail r = rails.get(i);
                if (r.again == tick) {
                    r.again = -2;
                    r.retries++;
                    r.state = 1;
                    waiting.add(i);
                    write(i, 7);
                }
            }
            while (mode == 1) {
                if (step == steps.size()) {
                    mode = 2;
                    write(-2, 6);
                    break;
                }
                int[] s = steps.get(step);
                boolean next = true;
                if (s[0] < 2) ask(s[1], s[0] == 1);
                else if (s[0] == 2) next = stay == s[2];
                else next = good(s[1]);
                if (next) {
                    step++;
                    stay = 0;
                    continue;
                }
                stay++;
                if (s[0] == 3 && stay == s[2]) {
                    mode = 3;
                    write(-2, 5);
                    List<Integer> all = new ArrayList<>();
                    for (int i = 0; i < rails.size(); i++) all.add(i);
                    unwind(all);
                }
                break;
            }
            for (int i : new ArrayList<>(waiting)) {
                if (why(i) == 0) {
                    waiting.remove((Integer) i);
                    rails.get(i).state = 2;
                    rails.get(i).began = tick;
                    write(i, 0);
                }
            }
            for (int i = 0; i < rails.size(); i++) {
                MRail r = rails.get(i);
                int was = r.volts;
                if (r.state == 2) {
                    r.volts += r.ramp;
                    if (r.volts >= r.level) {
                        r.volts = r.level;
                        r.state = 3;
                        write(i, 1);
                    }
                } else if (r.state == 3) {
                    r.volts += r.over ? -droop : r.ramp;
                    if (r.volts < 0) r.volts = 0;
                    if (r.volts > r.level) r.volts = r.level;
                } else if (r.state == 4) {
                    r.volts -= fall;
                    if (r.volts <= 0) {
                        r.volts = 0;
                        r.state = 0;
                        write(i, 4);
                        if (r.tripped && r.retries < times) r.again = tick + hold;
                    }
                }
                r.rose = r.volts > was ? r.volts - was : 0;
            }
            total = 0;
            for (int i = rails.size() - 1; i >= 0; i--) {
                MRail r = rails.get(i);
                r.drawn = r.charge * r.rose / 16;
                if (on(i)) r.drawn += (int) ((long) r.load * r.volts / r.level);
                for (MRail child : rails) if (child.parent == i) r.drawn += child.drawn;
                r.over = r.drawn > r.limit;
                if (r.parent < 0) total += r.drawn;
            }
            for (int i = 0; i < rails.size(); i++) {
                MRail r = rails.get(i);
                if (r.state == 3 && !good(i)) r.low++; else r.low = 0;
                if (r.low >= filter && !row.contains(i)) trip(i);
            }
            if (total > budget) {
                int last = -1;
                for (int i = 0; i < rails.size(); i++) {
                    if (on(i) && !row.contains(i) && (last < 0 || rails.get(i).began >= rails.get(last).began)) last = i;
                }
                if (last >= 0) trip(last);
            }
            if (!row.isEmpty()) {
                int first = row.remove(0);
                rails.get(first).state = 4;
                write(first, 3);
            }
        }

        int why(int i) {
            if (rails.get(i).state != 1) return -2;
            if (rails.get(i).parent >= 0 && !good(rails.get(i).parent)) return 1;
            for (int n : rails.get(i).needs) if (!good(n)) return 2;
            return 0;
        }

        boolean quiet() {
            for (MRail r : rails) {
                if (r.state == 1 || r.state == 2 || r.state == 4 || r.state == 3 && r.volts < r.level || r.again != -2) {
                    return false;
                }
            }
            return row.isEmpty() && mode != 1;
        }

        int trips() {
            int sum = 0;
            for (MRail r : rails) sum += r.trips;
            return sum;
        }

        int goods() {
            int bits = 0;
            for (int i = 0; i < rails.size(); i++) if (good(i)) bits |= 1 << i;
            return bits;
        }

        // As it goes.

        int ahead(int i, int n, int what) {
            Model m = copy();
            int most = rails.get(i).drawn;
            for (int k = 0; k < n; k++) {
                m.tick();
                most = Math.max(most, m.rails.get(i).drawn);
            }
            MRail r = m.rails.get(i);
            return what == 0 ? r.state : what == 1 ? r.volts : what == 2 ? most : r.trips - rails.get(i).trips;
        }

        int peak(int n) {
            Model m = copy();
            int most = total;
            for (int k = 0; k < n; k++) {
                m.tick();
                most = Math.max(most, m.total);
            }
            return most;
        }

        int quietIn() {
            Model m = copy();
            for (int k = 0; k <= 300; k++) {
                if (m.quiet()) return k;
                m.tick();
            }
            return -2;
        }

        boolean everOver(int i, int limit) {
            Model m = copy();
            m.rails.get(i).limit = limit;
            for (int k = 0; k < 100; k++) {
                m.tick();
                if (m.rails.get(i).over) return true;
            }
            return false;
        }

        int ifLoad(int i, int load) {
            Model m = copy();
            m.rails.get(i).load = load;
            for (int k = 0; k < 100; k++) m.tick();
            int bits = 0;
            for (int j = 0; j < rails.size(); j++) if (m.rails.get(j).trips != rails.get(j).trips) bits |= 1 << j;
            return bits;
        }

        int ifOff(int i) {
            Model m = copy();
            m.ask(i, true);
            int bits = 0;
            for (int j = 0; j < rails.size(); j++) {
                if (m.row.contains(j) && !row.contains(j) || rails.get(j).state == 1 && m.rails.get(j).state == 0) {
                    bits |= 1 << j;
                }
            }
            return bits;
        }

        int bestOff(int n) {
            int best = -2, least = Integer.MAX_VALUE;
            for (int i = 0; i < rails.size(); i++) {
                if (!on(i)) continue;
                Model m = copy();
                m.ask(i, true);
                for (int k = 0; k < n; k++) m.tick();
                if (m.total < least) {
                    least = m.total;
                    best = i;
                }
            }
            return best;
        }

        int chance(int from, int n, int p, int what) {
            Model m = copy();
            long x = from < 0 ? seed : from;
            int most = 0;
            for (int k = 0; k < n; k++) {
                if (!rails.isEmpty()) {
                    x = (x * 1103515245L + 12345) % 2147483648L;
                    int i = (int) (x / 65536 % rails.size());
                    x = (x * 1103515245L + 12345) % 2147483648L;
                    m.rails.get(i).load = (int) (x / 65536 % (p + 1));
                }
                m.tick();
                most = Math.max(most, m.total);
            }
            return what == 0 ? most : what == 1 ? m.trips() - trips() : m.goods();
        }

        // Rings and orders, by trying all.

        List<Integer> firstRing() {
            for (int first = 0; first < rails.size(); first++) {
                if (!hangs(first, first)) continue;
                List<List<Integer>> paths = new ArrayList<>();
                paths.add(List.of(first));
                while (true) {
                    List<List<Integer>> longer = new ArrayList<>();
                    for (List<Integer> path : paths) {
                        for (int next : directly(path.get(path.size() - 1))) {
                            if (next == first) return path;
                            if (path.contains(next)) continue;
                            List<Integer> more = new ArrayList<>(path);
                            more.add(next);
                            longer.add(more);
                        }
                    }
                    paths = longer;
                }
            }
            return new ArrayList<>();
        }

        List<Integer> bestOrder;
        int bestHeat;

        void findOrder() {
            bestOrder = null;
            bestHeat = -2;
            extend(new ArrayList<>(), 0, 0);
        }

        private void extend(List<Integer> order, int loads, int heat) {
            if (bestOrder != null && heat >= bestHeat) return;
            if (order.size() == rails.size()) {
                bestOrder = new ArrayList<>(order);
                bestHeat = heat;
                return;
            }
            for (int i = 0; i < rails.size(); i++) {
                if (order.contains(i) || !order.containsAll(directly(i))) continue;
                MRail r = rails.get(i);
                int mine = loads + r.load + r.charge * (r.level < r.ramp ? r.level : r.ramp) / 16;
                order.add(i);
                extend(order, loads + r.load, Math.max(heat, mine));
                order.remove(order.size() - 1);
            }
        }
    }

    // Drawing texts.

    private static String text;

    /** A text of lines with words between blanks, and the model that it tells. */
    private static Model drawText() {
        Model m = new Model();
        StringBuilder t = new StringBuilder();
        int rails = pick(0, 1, 2, 3, 4, 5, 6, 7, 12, 12);
        boolean heavy = draw(3) == 0;
        boolean sparing = draw(3) == 0;
        for (int i = 0; i < rails; i++) {
            MRail r = new MRail();
            r.parent = i == 0 || draw(3) == 0 ? -2 : draw(i);
            r.level = pick(1 + draw(9999), 100, 1000, 1000, 500);
            r.ramp = pick(r.level, (r.level + 1) / 2, (r.level + 4) / 5, 9999, 1 + draw(9999));
            r.charge = pick(0, 0, 1, 16, 99);
            r.load = pick(0, 10, 100, draw(1000));
            r.limit = heavy ? pick(1, 50, 120, 300 + draw(900)) : pick(99999, 5000, 1000, 2000);
            t.append("rail ").append((char) ('a' + i)).append(' ');
            t.append(r.parent < 0 ? "source" : "" + (char) ('a' + r.parent));
            for (int n : new int[] {r.level, r.ramp, r.charge, r.load, r.limit}) t.append(' ').append(n);
            t.append(';').append(draw(6) == 0 ? "\n" : "");
            m.rails.add(r);
        }
        if (draw(2) == 0) t.append("droop ").append(m.droop = pick(1, 20, 100, 300, 999)).append(';');
        if (draw(2) == 0) t.append("fall ").append(m.fall = pick(1 + draw(200), 100, 1000, 9999)).append(';');
        if (draw(2) == 0) t.append("low ").append(m.low = pick(1, 50, 80, 95, 100)).append(';');
        if (draw(2) == 0) t.append("filter ").append(m.filter = pick(1, 2, 3, 9)).append(';');
        if (draw(2) == 0) {
            t.append("retry ").append(m.times = pick(0, 1, 2, 9)).append(' ');
            t.append(m.hold = pick(1, 2, 5, 20)).append(';');
        }
        if (sparing) t.append("budget ").append(m.budget = pick(1, 100, 300, 600, 2000)).append(';');
        if (draw(2) == 0) t.append("seed ").append(m.seed = draw(100000)).append(';');
        int needs = rails < 2 || draw(2) == 0 ? 0 : draw(2 + draw(rails + 3));
        boolean downwards = draw(3) > 0;
        int told = 0;
        for (int k = 0; k < needs && told < 20; k++) {
            int a = draw(rails), b = draw(rails);
            if (downwards && b > a) {
                int c = a;
                a = b;
                b = c;
            }
            if (a == b || m.rails.get(a).needs.contains(b)) continue;
            m.rails.get(a).needs.add(b);
            told++;
            t.append("needs ").append((char) ('a' + a)).append(' ').append((char) ('a' + b)).append(';');
        }
        int steps = draw(3) == 0 ? 0 : draw(10);
        for (int k = 0; k < steps; k++) {
            int kind = rails == 0 ? 2 : pick(0, 0, 0, 0, 1, 2, 3, 3);
            int rail = kind == 2 ? -2 : draw(rails);
            int n = kind < 2 ? 0 : pick(1, 2, 3, 10, 30);
            m.steps.add(new int[] {kind, rail, n});
            t.append(new String[] {"on", "off", "wait", "guard"}[kind]);
            if (rail >= 0) t.append(' ').append((char) ('a' + rail));
            if (n > 0) t.append(' ').append(n);
            t.append(';');
        }
        text = t.toString();
        return m;
    }

    // One run.

    private static void compare(String when, PowerRails x, Model m) {
        String want = picture(m);
        String got = Checks.picture(x);
        Checks.due(when + " as the model tells", got.equals(want) ? 1 : 0, 1);
        if (!got.equals(want)) System.out.println(text + "\ngot\n" + got + "\nwant\n" + want);
    }

    private static String picture(Model m) {
        StringBuilder all = new StringBuilder();
        int needs = 0;
        for (MRail r : m.rails) needs += r.needs.size();
        int[] counts = {m.rails.size(), needs, m.steps.size(), m.tick, m.waiting.size(), m.row.size(),
            Integer.bitCount(m.goods()), m.trips(), Math.min(40, m.log.size())};
        for (int n : counts) all.append(n).append(' ');
        all.append("total ").append(m.total);
        for (int i = 0; i < m.rails.size(); i++) {
            MRail r = m.rails.get(i);
            int[] told = {r.parent, r.level, r.ramp, r.charge, r.load, r.limit, r.state, r.volts, r.drawn,
                r.over ? 1 : 0, m.good(i) ? 1 : 0, r.began, r.trips, r.retries, r.again < 0 ? -2 : r.again - m.tick};
            all.append("\nrail ").append(i).append(':');
            for (int n : told) all.append(' ').append(n);
            int above = 0, below = 0, need = 0;
            for (int j = 0; j < m.rails.size(); j++) {
                if (m.hangs(i, j)) above |= 1 << j;
                if (m.hangs(j, i)) below |= 1 << j;
                if (r.needs.contains(j)) need |= 1 << j;
            }
            all.append(' ').append(need).append(' ').append(above).append(' ').append(below);
            all.append(" why ").append(m.why(i));
        }
        all.append("\nsequence ").append(m.mode).append(' ').append(m.step).append(' ').append(m.stay);
        all.append("\nwait");
        for (int i : m.waiting) all.append(' ').append(i);
        all.append(" -2\nrow");
        for (int i : m.row) all.append(' ').append(i);
        all.append(" -2");
        for (int k = 0; k < m.log.size() && k < 40; k++) {
            int[] e = m.log.get(k);
            all.append("\nlog ").append(e[0]).append(' ').append(e[1]).append(' ').append(e[2]);
        }
        return all.toString();
    }

    private static void lookAhead(PowerRails x, Model m) {
        int rails = m.rails.size();
        if (rails > 0) {
            int i = draw(rails), n = pick(0, 1, 5, 30, 300, draw(301)), what = draw(4), load = draw(10000);
            Checks.due("ahead", x.ahead(i, n, what), m.ahead(i, n, what));
            Checks.due("ifLoad", x.ifLoad(i, load), m.ifLoad(i, load));
            Checks.due("ifOff", x.ifOff(i), m.ifOff(i));
            int limit = x.leastLimit(i);
            if (limit == -2) {
                Checks.due("over with 99999", m.everOver(i, 99999) ? 1 : 0, 1);
            } else {
                Checks.due("over with the least limit", m.everOver(i, limit) ? 1 : 0, 0);
                for (int lower = Math.max(1, limit - 40); lower < limit; lower++) {
                    Checks.due("over with a lower limit", m.everOver(i, lower) ? 1 : 0, 1);
                }
                if (limit > 1) {
                    Checks.due("over with a limit far lower", m.everOver(i, 1 + draw(limit - 1)) ? 1 : 0, 1);
                }
            }
        }
        int n = pick(0, 3, 20, 300);
        Checks.due("peak", x.peak(n), m.peak(n));
        Checks.due("quiet", x.quiet(), m.quietIn());
        int far = 1 + draw(60);
        Checks.due("bestOff", x.bestOff(far), m.bestOff(far));
        int seed = pick(-1, 0, 2147483647, draw(1000000)), p = pick(1, 50, 9999, 1 + draw(9999)), what = draw(3);
        int ticks = 1 + draw(200);
        Checks.due("chance", x.chance(seed, ticks, p, what), m.chance(seed, ticks, p, what));
        ordersAndRings(x, m);
    }

    private static void ordersAndRings(PowerRails x, Model m) {
        List<Integer> ring = m.firstRing();
        for (int k = 0; k <= m.rails.size(); k++) {
            Checks.due("ring", x.ring(k), k < ring.size() ? ring.get(k) : -2);
        }
        int in = 0, above = 0;
        for (int i = 0; i < m.rails.size(); i++) if (m.hangs(i, i)) in |= 1 << i;
        for (int i = 0; i < m.rails.size(); i++) {
            for (int j = 0; j < m.rails.size(); j++) {
                if ((in >> j & 1) != 0 && (i == j || m.hangs(i, j))) above |= 1 << i;
            }
        }
        Checks.due("never(0)", x.never(0), in);
        Checks.due("never(1)", x.never(1), above);
        if (m.rails.size() > 7) return;
        m.findOrder();
        Checks.due("heat", x.heat(), m.bestHeat);
        for (int k = 0; k < m.rails.size(); k++) {
            Checks.due("order", x.order(k), m.bestOrder == null ? -2 : m.bestOrder.get(k));
        }
    }

    private static void run() {
        Model m = drawText();
        PowerRails x = Checks.told(text);
        List<Model> past = new ArrayList<>();
        Model image = null;
        compare("at first", x, m);
        int calls = 20 + draw(40);
        for (int k = 0; k < calls; k++) {
            int rails = m.rails.size();
            int what = draw(20);
            Model before = m.copy();
            int kept = past.size();
            if (what < 8) {
                int n = pick(1, 1, 1, 2, 3, 10, 50);
                for (int t = 0; t < n; t++) m.tick();
                Checks.due("tick", x.tick(n), m.tick);
                past.add(before);
            } else if (what < 13 && rails > 0) {
                int i = draw(rails);
                boolean off = draw(3) == 0;
                m.ask(i, off);
                Checks.due("ask", x.ask(i, off), m.rails.get(i).state);
                past.add(before);
            } else if (what < 15) {
                int want = m.steps.isEmpty() ? -1 : m.mode == 1 ? -2 : m.steps.size();
                Checks.due("begin", x.begin(), want);
                if (want >= 0) {
                    m.mode = 1;
                    m.step = 0;
                    m.stay = 0;
                    past.add(before);
                }
            } else if (what == 15 && rails > 0) {
                int i = draw(rails), n = pick(0, 50, 500, draw(10000));
                Checks.due("load", x.load(i, n), m.rails.get(i).load);
                m.rails.get(i).load = n;
                past.add(before);
            } else if (what == 16 && rails > 0) {
                int i = draw(rails), n = pick(1, 100, 99999, 1 + draw(3000));
                Checks.due("limit", x.limit(i, n), m.rails.get(i).limit);
                m.rails.get(i).limit = n;
                past.add(before);
            } else if (what == 17) {
                Checks.due("undo", x.undo(), past.isEmpty() ? -1 : past.size() - 1);
                if (!past.isEmpty()) m = past.remove(past.size() - 1);
            } else if (what == 18) {
                if (draw(2) == 0) {
                    Checks.due("keep", x.keep(), m.tick);
                    image = m.copy();
                } else {
                    Checks.due("back", x.back(), image == null ? -1 : image.tick);
                    if (image != null) {
                        m = image.copy();
                        past.clear();
                    }
                }
            } else {
                lookAhead(x, m);
            }
            if (past.size() > 20) past.remove(0);
            Checks.due("count(9)", x.count(9), past.size());
            compare("behind call " + k + " (" + what + ", " + kept + ")", x, m);
        }
    }

    public static void main(String[] args) {
        int runs = args.length > 0 ? Integer.parseInt(args[0]) : 300;
        if (args.length > 1) number = Long.parseLong(args[1]);
        for (int k = 0; k < runs; k++) run();
        Checks.finish("ModelTest");
    }
}
