import java.util.ArrayList;
import java.util.List;
import java.util.Map;
import java.util.Random;
import java.util.TreeMap;

/**
 * Random runs, with a fixed seed each, against a model that is built another way: it counts down what is left until a
 * thing is DUE, looks at everything in each STEP, and searches for circles anew each time. Its 512 calls are the random
 * ones; between them it reads the whole state, more often than the document promises, as the class counts no calls.
 */
final class ModelTest {
    private static final Due due = new Due();

    public static void main(String[] args) {
        for (int seed = 1; seed <= 1500 && !due.anyWrong(); seed++) {
            due.in("seed " + seed);
            new Run(seed).all();
        }
        due.end();
    }

    /** One object and its model; what kind of run it is depends on the seed, too. */
    private static final class Run {
        private final Random r;
        private final AlarmTables x = new AlarmTables();
        private final Model m = new Model();
        private final int counters;
        private final int longest;
        private final int mostTicks;
        private int compared;

        Run(int seed) {
            r = new Random(seed);
            counters = 1 + r.nextInt(5);
            longest = 1 + r.nextInt(12);
            mostTicks = r.nextInt(10) == 0 ? 5000 : 30;
        }

        void all() {
            for (int i = 0; i < counters; i++) {
                makeCounter(1 + r.nextInt(12), 1 + r.nextInt(3));
            }
            for (int i = counters; i < 512; i++) {
                oneCall();
                compareState();
            }
        }

        private void makeCounter(long base, long ticks) {
            due.is("counter(" + base + ", " + ticks + ")", Model.caught(() -> x.counter(base, ticks)),
                Model.caught(() -> m.counter(base, ticks)));
        }

        private void oneCall() {
            int c = near(m.cs.size());
            int a = near(m.as.size());
            int t = near(m.ts.size());
            switch (r.nextInt(20)) {
                case 0 -> makeCounter(r.nextInt(4) == 0 ? 1 : r.nextInt(3) - 1, r.nextInt(2));
                case 1, 2, 3 -> {
                    int act = r.nextInt(20) == 0 ? r.nextInt(6) - 2 : r.nextInt(3);
                    int of = act == 1 ? near(m.cs.size()) : act == 2 ? near(m.as.size()) : r.nextInt(10) == 0 ? 1 : 0;
                    same("alarm", c, act, of, x.alarm(c, act, of), m.alarm(c, act, of));
                }
                case 4, 5, 6 -> {
                    long at = r.nextInt(14) - 1;
                    long cycle = r.nextInt(3) == 0 ? 0 : r.nextInt(8) - 1;
                    boolean absolute = r.nextBoolean();
                    same("set", a, at, cycle, x.set(a, at, cycle, absolute), m.set(a, at, cycle, absolute));
                }
                case 7 -> same("cancel", a, 0, 0, x.cancel(a), m.cancel(a));
                case 8 -> {
                    long length = r.nextInt(longest + 1);
                    same("table", c, length, 0, x.table(c, length), m.table(c, length));
                }
                case 9, 10, 11 -> {
                    long offset = r.nextInt(longest + 2) - (r.nextInt(10) == 0 ? 1 : 0);
                    int act = r.nextBoolean() ? near(m.cs.size()) : r.nextBoolean() ? -near(m.as.size()) : 0;
                    same("point", t, offset, act, x.point(t, offset, act), m.point(t, offset, act));
                }
                case 12, 13 -> {
                    long at = r.nextInt(7);
                    same("start", t, at, 0, x.start(t, at), m.start(t, at));
                }
                case 14 -> {
                    int other = near(m.ts.size());
                    same("next", t, other, 0, x.next(t, other), m.next(t, other));
                }
                case 15 -> {
                    long by = r.nextInt(10) == 0 ? r.nextInt(4001) - 2000 : r.nextInt(21) - 10;
                    same("sync", t, by, 0, x.sync(t, by), m.sync(t, by));
                }
                default -> {
                    long n = r.nextInt(mostTicks + 2) - 1;
                    same("tick", c, n, 0, x.tick(c, n), m.tick(c, n));
                }
            }
        }

        /** Mostly a number that is there, at times one just outside. */
        private int near(int count) {
            return r.nextInt(12) == 0 || count == 0 ? r.nextInt(count + 4) - 1 : 1 + r.nextInt(count);
        }

        private void same(String call, long p, long q, long s, long got, long want) {
            due.is(call + "(" + p + ", " + q + ", " + s + ")", got, want);
        }

        private void compareState() {
            due.is("expired(-1, 0)", x.expired(-1, 0), m.total);
            for (; compared < m.log.size(); compared++) {
                for (int what = 0; what < 4; what++) {
                    due.is("expired(.., " + what + ")", x.expired(compared, what), m.log.get(compared)[what]);
                }
            }
            due.is("expired behind the last", x.expired(compared, 0), -1);
            for (int t = 0; t <= m.ts.size() + 1; t++) {
                due.is("deviation", x.deviation(t), t < 1 || t > m.ts.size() ? 0 : m.ts.get(t - 1).deviation);
            }
        }
    }

    private static final class Model {
        private static final int END = -2;
        private static final int BEGINNING = -1;

        private static final class C {
            long base;
            long ticks;
            long kept;
            long value;
        }

        private static final class A {
            int c;
            int stepped;
            int cancelled;
            long left = -1;
            long cycle;
        }

        private static final class T {
            int c;
            long length;
            final TreeMap<Long, Integer> points = new TreeMap<>();
            long left = -1;
            long coming;
            long deviation;
            int next;
        }

        final List<C> cs = new ArrayList<>();
        final List<A> as = new ArrayList<>();
        final List<T> ts = new ArrayList<>();
        final List<int[]> log = new ArrayList<>();
        int total;
        private int actSteps;

        static String caught(java.util.function.IntSupplier call) {
            try {
                return Integer.toString(call.getAsInt());
            } catch (ArithmeticException e) {
                return "throws";
            }
        }

        int counter(long base, long ticks) {
            if (base < 0 || base > 1_000_000_000 || ticks < 1 || ticks > 1000) return -2;
            if (cs.size() == 20) return -4;
            if (base == 0) throw new ArithmeticException();
            C c = new C();
            c.base = base;
            c.ticks = ticks;
            cs.add(c);
            return cs.size();
        }

        private boolean leads(int from, int to) {
            if (from == to) return true;
            for (A a : as) {
                if (a.c == from && a.stepped > 0 && leads(a.stepped, to)) return true;
            }
            for (T t : ts) {
                if (t.c != from) continue;
                for (int act : t.points.values()) {
                    if (act > 0 && leads(act, to)) return true;
                }
            }
            return false;
        }

        private static boolean among(int n, List<?> all) {
            return n > 0 && n <= all.size();
        }

        int alarm(int counter, int act, int of) {
            if (!among(counter, cs)) return -1;
            if (act == 0 && of != 0) return -1;
            if (act == 1 && !among(of, cs)) return -1;
            if (act == 2 && !among(of, as)) return -1;
            if (act != 0 && act != 1 && act != 2) return -2;
            if (act == 1 && leads(of, counter)) return -3;
            if (as.size() == 100) return -4;
            A a = new A();
            a.c = counter;
            a.stepped = act == 1 ? of : 0;
            a.cancelled = act == 2 ? of : 0;
            as.add(a);
            return as.size();
        }

        int set(int alarm, long at, long cycle, boolean absolute) {
            if (!among(alarm, as)) return -1;
            A a = as.get(alarm - 1);
            C c = cs.get(a.c - 1);
            if (a.left > 0) return 2;
            if (at >= c.base || at < 0 || (at == 0 && !absolute)) return 3;
            if (cycle != 0 && !(cycle >= 2 && cycle <= c.base)) return 4;
            a.left = at;
            if (absolute) {
                long v = c.value;
                a.left = 0;
                do {
                    v = (v + 1) % c.base;
                    a.left++;
                } while (v != at);
            }
            a.cycle = cycle;
            return 1;
        }

        int cancel(int alarm) {
            if (!among(alarm, as)) return -1;
            if (as.get(alarm - 1).left < 0) return 5;
            as.get(alarm - 1).left = -1;
            return 1;
        }

        int table(int counter, long length) {
            if (!among(counter, cs)) return -1;
            if (length < 1 || length > 1_000_000) return -2;
            if (ts.size() == 20) return -4;
            T t = new T();
            t.c = counter;
            t.length = length;
            ts.add(t);
            return ts.size();
        }

        int point(int table, long offset, int act) {
            if (!among(table, ts)) return -1;
            if (act > 0 && !among(act, cs)) return -1;
            if (act < 0 && !among(-act, as)) return -1;
            T t = ts.get(table - 1);
            if (offset < 0 || offset > t.length) return -2;
            if (t.points.containsKey(offset) || t.left >= 0) return -3;
            if (act > 0 && leads(act, t.c)) return -3;
            if (t.points.size() == 20) return -4;
            t.points.put(offset, act);
            return t.points.size();
        }

        int start(int table, long at) {
            if (!among(table, ts)) return -1;
            T t = ts.get(table - 1);
            if (t.left >= 0) return 2;
            if (at < 1 || at > 1_000_000) return 3;
            t.left = at;
            t.coming = BEGINNING;
            t.deviation = 0;
            return 1;
        }

        int next(int table, int other) {
            if (!among(table, ts)) return -1;
            if (other != 0 && !among(other, ts)) return -1;
            if (other != 0 && ts.get(other - 1).c != ts.get(table - 1).c) return -3;
            ts.get(table - 1).next = other;
            return 1;
        }

        int sync(int table, long by) {
            if (!among(table, ts)) return -1;
            T t = ts.get(table - 1);
            if (Math.abs(t.deviation + by) > 1000) return -2;
            if (t.left < 0) return -3;
            t.deviation += by;
            return (int) t.deviation;
        }

        int tick(int counter, long n) {
            if (!among(counter, cs)) return -1;
            if (n < 0 || n > 100_000) return -2;
            C c = cs.get(counter - 1);
            if ((c.kept + n) / c.ticks > 5000) return -2;
            int before = total;
            actSteps = 0;
            for (long i = 0; i < n; i++) {
                c.kept++;
                if (c.kept == c.ticks) {
                    c.kept = 0;
                    step(counter);
                }
            }
            return total - before;
        }

        private void note(int kind, int number, long offset, int counter) {
            total++;
            if (log.size() < 3000) {
                log.add(new int[] {kind, number, (int) offset, (int) cs.get(counter - 1).value});
            }
        }

        private void step(int counter) {
            C c = cs.get(counter - 1);
            c.value = (c.value + 1) % c.base;
            for (A a : as) {
                if (a.c == counter && a.left > 0) a.left--;
            }
            for (T t : ts) {
                if (t.c == counter && t.left > 0) t.left--;
            }
            for (int i = 1; i <= as.size(); i++) {
                A a = as.get(i - 1);
                if (a.c != counter || a.left != 0) continue;
                note(0, i, 0, counter);
                a.left = a.cycle == 0 ? -1 : a.cycle;
                act(a.stepped, a.cancelled);
            }
            for (int i = 1; i <= ts.size(); i++) {
                if (ts.get(i - 1).c == counter && ts.get(i - 1).left == 0) tableTurn(i);
            }
        }

        private void act(int stepped, int cancelled) {
            if (cancelled > 0) as.get(cancelled - 1).left = -1;
            if (stepped > 0 && actSteps < 20000) {
                actSteps++;
                step(stepped);
            }
        }

        private void tableTurn(int number) {
            T t = ts.get(number - 1);
            if (t.coming == BEGINNING) {
                towards(t, t.points.ceilingEntry(0L), 0);
            } else if (t.coming == END) {
                note(2, number, 0, t.c);
                t.left = -1;
                if (t.next > 0 && ts.get(t.next - 1).left < 0) {
                    T next = ts.get(t.next - 1);
                    if (next != t) next.deviation = 0;
                    next.left = 0;
                    next.coming = BEGINNING;
                    tableTurn(t.next);
                }
                return;
            } else {
                long at = t.coming;
                note(1, number, at, t.c);
                towards(t, t.points.higherEntry(at), at);
                int act = t.points.get(at);
                act(Math.max(act, 0), Math.max(-act, 0));
            }
            if (t.left == 0) tableTurn(number);
        }

        private void towards(T t, Map.Entry<Long, Integer> point, long from) {
            long to = point == null ? t.length : point.getKey();
            t.coming = point == null ? END : to;
            long d = to - from;
            t.left = d;
            if (d == 0) return;
            long c = t.deviation > 2 ? 2 : t.deviation < -2 ? -2 : t.deviation;
            if (c < 1 - d) c = 1 - d;
            t.left = d + c;
            t.deviation -= c;
        }
    }
}
