/** Counters that wrap, with alarms and schedule tables on them; ../shared/DOC.md says what each call promises. */
public final class AlarmTables {
    private static final int UNKNOWN = -1;
    private static final int OUT_OF_RANGE = -2;
    private static final int WRONG_STATE = -3;
    private static final int NO_ROOM = -4;

    private static final int DONE = 1;
    private static final int ALREADY = 2;
    private static final int BAD_TIME = 3;
    private static final int BAD_CYCLE = 4;
    private static final int WAS_NOT_SET = 5;

    private static final int ACT_NOTHING = 0;
    private static final int ACT_STEP = 1;
    private static final int ACT_CANCEL = 2;

    private static final int KIND_ALARM = 0;
    private static final int KIND_POINT = 1;
    private static final int KIND_END = 2;

    private static final int MOST_COUNTERS = 20;
    private static final int MOST_ALARMS = 100;
    private static final int MOST_TABLES = 20;
    private static final int MOST_POINTS = 20;
    private static final long MOST_BASE = 1000000000L;
    private static final long MOST_TICKS_A_STEP = 1000L;
    private static final long MOST_LENGTH = 1000000L;
    private static final long MOST_START = 1000000L;
    private static final long MOST_DEVIATION = 1000L;
    private static final long MOST_TICKS_A_CALL = 100000L;
    private static final long MOST_STEPS_A_CALL = 5000L;
    private static final int MOST_ACT_STEPS = 20000;
    private static final long MOST_DRAW = 2L;

    /** A POINT at LENGTH, the END, the beginning of NEXT and its POINT at 0 are four; every d behind them is above 0. */
    private static final int MOST_TURNS_IN_A_STEP = 8;

    private static final int MOST_NOTES = 3000;
    private static final int NOTES_A_PAGE = 250;
    private static final int PAGES = MOST_NOTES / NOTES_A_PAGE;
    private static final int NOTE_WIDTH = 4;

    private static final long NEVER = 0x7fffffffffffffffL;

    private static final class Counter {
        final int bit;
        final long base;
        final long ticksAStep;
        long ticksKept;
        long value;
        /** STEPS made since the counter is there: unlike the VALUE it never wraps, so DUE is told by it. */
        long steps;
        /** Nothing is DUE before this many STEPS; it may be too early, never too late. */
        long wake = NEVER;
        /** The bits of all counters that STEPS of this one can lead to, also by way of others. */
        int leadsTo;
        Alarm firstAlarm;
        Alarm lastAlarm;
        Table firstTable;
        Table lastTable;

        Counter(int number, long base, long ticksAStep) {
            this.bit = 1 << (number - 1);
            this.base = base;
            this.ticksAStep = ticksAStep;
        }

        void wakeAt(long due) {
            wake = Math.min(wake, due);
        }

        void advance() {
            steps++;
            value++;
            if (value >= base) {
                value = 0;
            }
        }

        long stepsUntil(long at) {
            long ahead = at - value;
            return ahead > 0 ? ahead : ahead + base;
        }

        /** Appending keeps the chain in the order of the numbers, which is the order within a STEP. */
        void appendAlarm(Alarm alarm) {
            if (lastAlarm == null) {
                firstAlarm = alarm;
            } else {
                lastAlarm.behind = alarm;
            }
            lastAlarm = alarm;
        }

        void appendTable(Table table) {
            if (lastTable == null) {
                firstTable = table;
            } else {
                lastTable.behind = table;
            }
            lastTable = table;
        }
    }

    /** At most one of the two is there; with neither the ACT is nothing. */
    private static final class Act {
        final Counter stepped;
        final Alarm cancelled;

        Act(Counter stepped, Alarm cancelled) {
            this.stepped = stepped;
            this.cancelled = cancelled;
        }
    }

    private static final class Alarm {
        final int number;
        final Counter counter;
        final Act act;
        boolean isSet;
        long due;
        long cycle;
        Alarm behind;

        Alarm(int number, Counter counter, Act act) {
            this.number = number;
            this.counter = counter;
            this.act = act;
        }

        void becomeDue(long stepsLater) {
            due = counter.steps + stepsLater;
            counter.wakeAt(due);
        }
    }

    private static final class Point {
        final long offset;
        final Act act;
        Point behind;

        Point(long offset, Act act) {
            this.offset = offset;
            this.act = act;
        }
    }

    private static final class Table {
        final int number;
        final Counter counter;
        final long length;
        Point firstPoint;
        int pointCount;
        /** From start() or a beginning as NEXT until the END. */
        boolean runs;
        boolean begun;
        long due;
        /** What a table that has begun is DUE for; null is the END. */
        Point coming;
        /** The DEVIATION; it outlives the END, since deviation() still tells it then. */
        long drift;
        /** The NEXT table, or null. */
        Table told;
        Table behind;

        Table(int number, Counter counter, long length) {
            this.number = number;
            this.counter = counter;
            this.length = length;
        }

        /** The last POINT before an offset, or null. */
        Point pointBefore(long offset) {
            Point before = null;
            for (Point p = firstPoint; p != null && p.offset < offset; p = p.behind) {
                before = p;
            }
            return before;
        }

        boolean hasPointAt(long offset) {
            Point before = pointBefore(offset);
            Point p = before == null ? firstPoint : before.behind;
            return p != null && p.offset == offset;
        }

        void insert(Point point) {
            Point before = pointBefore(point.offset);
            if (before == null) {
                point.behind = firstPoint;
                firstPoint = point;
            } else {
                point.behind = before.behind;
                before.behind = point;
            }
            pointCount++;
        }

        void runFrom(long dueToBegin) {
            runs = true;
            begun = false;
            due = dueToBegin;
        }

        /** What comes next is settled here, before the ACT of the POINT that was left is done. */
        void goOn(long from, Point to) {
            coming = to;
            long distance = (to == null ? length : to.offset) - from;
            due = counter.steps;
            if (distance > 0) {
                long draw = Math.max(Math.min(drift, MOST_DRAW), -MOST_DRAW);
                draw = Math.max(draw, 1 - distance);
                drift -= draw;
                due += distance + draw;
                counter.wakeAt(due);
            }
        }
    }

    private static final class Page {
        final int[] cells = new int[NOTES_A_PAGE * NOTE_WIDTH];

        void write(int at, int kind, int number, long offset, long value) {
            if (at >= 0 && at + NOTE_WIDTH <= cells.length) {
                cells[at] = kind;
                cells[at + 1] = number;
                cells[at + 2] = (int) offset;
                cells[at + 3] = (int) value;
            }
        }
    }

    /** Pages are made when they are first needed, so that an object with few EXPIRED stays small. */
    private static final class Notes {
        final Page[] pages = new Page[PAGES];
        int kept;
        /** Also those that there was no room to keep. */
        int total;

        void add(int kind, int number, long offset, long value) {
            total++;
            if (kept >= MOST_NOTES) {
                return;
            }
            int p = kept / NOTES_A_PAGE;
            if (pages[p] == null) {
                pages[p] = new Page();
            }
            pages[p].write(kept % NOTES_A_PAGE * NOTE_WIDTH, kind, number, offset, value);
            kept++;
        }

        boolean has(int i) {
            return i >= 0 && i < kept;
        }

        /** Asked only for a note that is there and a column of it. */
        int read(int i, int column) {
            Page page = pages[i / NOTES_A_PAGE];
            return page == null ? UNKNOWN : page.cells[i % NOTES_A_PAGE * NOTE_WIDTH + column];
        }
    }

    private final Counter[] counters = new Counter[MOST_COUNTERS];
    private final Alarm[] alarms = new Alarm[MOST_ALARMS];
    private final Table[] tables = new Table[MOST_TABLES];
    private final Notes notes = new Notes();
    private int counterCount;
    private int alarmCount;
    private int tableCount;
    /** STEPS that ACTs have made in the present call. */
    private int actSteps;

    public AlarmTables() {
    }

    public int counter(long base, long ticks) throws ArithmeticException {
        if (base < 0 || base > MOST_BASE || ticks < 1 || ticks > MOST_TICKS_A_STEP) {
            return OUT_OF_RANGE;
        }
        if (counterCount >= MOST_COUNTERS) {
            return NO_ROOM;
        }
        if (base == 0) {
            throw new ArithmeticException("a counter cannot wrap at 0");
        }
        counters[counterCount] = new Counter(counterCount + 1, base, ticks);
        counterCount++;
        return counterCount;
    }

    public int alarm(int counter, int act, int of) {
        Counter own = findCounter(counter);
        if (own == null || isUnknownFor(act, of)) {
            return UNKNOWN;
        }
        if (act < ACT_NOTHING || act > ACT_CANCEL) {
            return OUT_OF_RANGE;
        }
        Counter stepped = act == ACT_STEP ? findCounter(of) : null;
        if (wouldCircle(own, stepped)) {
            return WRONG_STATE;
        }
        if (alarmCount >= MOST_ALARMS) {
            return NO_ROOM;
        }
        Alarm cancelled = act == ACT_CANCEL ? findAlarm(of) : null;
        Alarm made = new Alarm(alarmCount + 1, own, new Act(stepped, cancelled));
        alarms[alarmCount] = made;
        alarmCount++;
        own.appendAlarm(made);
        link(own, stepped);
        return alarmCount;
    }

    public int set(int alarm, long at, long cycle, boolean absolute) {
        Alarm a = findAlarm(alarm);
        if (a == null) {
            return UNKNOWN;
        }
        if (a.isSet) {
            return ALREADY;
        }
        long base = a.counter.base;
        if (at < (absolute ? 0 : 1) || at >= base) {
            return BAD_TIME;
        }
        if (cycle != 0 && (cycle < 2 || cycle > base)) {
            return BAD_CYCLE;
        }
        a.isSet = true;
        a.cycle = cycle;
        a.becomeDue(absolute ? a.counter.stepsUntil(at) : at);
        return DONE;
    }

    public int cancel(int alarm) {
        Alarm a = findAlarm(alarm);
        if (a == null) {
            return UNKNOWN;
        }
        if (!a.isSet) {
            return WAS_NOT_SET;
        }
        a.isSet = false;
        return DONE;
    }

    public int table(int counter, long length) {
        Counter own = findCounter(counter);
        if (own == null) {
            return UNKNOWN;
        }
        if (length < 1 || length > MOST_LENGTH) {
            return OUT_OF_RANGE;
        }
        if (tableCount >= MOST_TABLES) {
            return NO_ROOM;
        }
        Table made = new Table(tableCount + 1, own, length);
        tables[tableCount] = made;
        tableCount++;
        own.appendTable(made);
        return tableCount;
    }

    public int point(int table, long offset, int act) {
        Table t = findTable(table);
        Counter stepped = act > 0 ? findCounter(act) : null;
        Alarm cancelled = act < 0 ? findAlarm(-act) : null;
        if (t == null || (act != 0 && stepped == null && cancelled == null)) {
            return UNKNOWN;
        }
        if (offset < 0 || offset > t.length) {
            return OUT_OF_RANGE;
        }
        if (t.runs || t.hasPointAt(offset) || wouldCircle(t.counter, stepped)) {
            return WRONG_STATE;
        }
        if (t.pointCount >= MOST_POINTS) {
            return NO_ROOM;
        }
        t.insert(new Point(offset, new Act(stepped, cancelled)));
        link(t.counter, stepped);
        return t.pointCount;
    }

    public int start(int table, long at) {
        Table t = findTable(table);
        if (t == null) {
            return UNKNOWN;
        }
        if (t.runs) {
            return ALREADY;
        }
        if (at < 1 || at > MOST_START) {
            return BAD_TIME;
        }
        t.drift = 0;
        t.runFrom(t.counter.steps + at);
        t.counter.wakeAt(t.due);
        return DONE;
    }

    public int next(int table, int other) {
        Table t = findTable(table);
        Table told = findTable(other);
        if (t == null || (other != 0 && told == null)) {
            return UNKNOWN;
        }
        if (told != null && told.counter != t.counter) {
            return WRONG_STATE;
        }
        t.told = told;
        return DONE;
    }

    public int sync(int table, long by) {
        Table t = findTable(table);
        if (t == null) {
            return UNKNOWN;
        }
        // The bounds are moved, not the sum made: by may be too big to be added.
        if (by < -MOST_DEVIATION - t.drift || by > MOST_DEVIATION - t.drift) {
            return OUT_OF_RANGE;
        }
        if (!t.runs) {
            return WRONG_STATE;
        }
        t.drift += by;
        return (int) t.drift;
    }

    public int tick(int counter, long n) {
        Counter own = findCounter(counter);
        if (own == null) {
            return UNKNOWN;
        }
        if (n < 0 || n > MOST_TICKS_A_CALL || own.ticksAStep < 1) {
            return OUT_OF_RANGE;
        }
        long ticks = own.ticksKept + n;
        long steps = ticks / own.ticksAStep;
        if (steps > MOST_STEPS_A_CALL) {
            return OUT_OF_RANGE;
        }
        own.ticksKept = ticks % own.ticksAStep;
        int before = notes.total;
        actSteps = 0;
        for (long i = 0; i < steps; i++) {
            makeStep(own, 1);
        }
        return notes.total - before;
    }

    public int expired(int i, int what) {
        if (i == -1 && what == 0) {
            return notes.total;
        }
        if (!notes.has(i)) {
            return UNKNOWN;
        }
        if (what < 0 || what >= NOTE_WIDTH) {
            return OUT_OF_RANGE;
        }
        return notes.read(i, what);
    }

    public long deviation(int table) {
        Table t = findTable(table);
        return t == null ? 0 : t.drift;
    }

    private Counter findCounter(int number) {
        return number >= 1 && number <= counterCount ? counters[number - 1] : null;
    }

    private Alarm findAlarm(int number) {
        return number >= 1 && number <= alarmCount ? alarms[number - 1] : null;
    }

    private Table findTable(int number) {
        return number >= 1 && number <= tableCount ? tables[number - 1] : null;
    }

    /** An ACT that there is not makes nothing unknown: it is outside the range, which is told later. */
    private boolean isUnknownFor(int act, int of) {
        switch (act) {
            case ACT_NOTHING:
                return of != 0;
            case ACT_STEP:
                return findCounter(of) == null;
            case ACT_CANCEL:
                return findAlarm(of) == null;
            default:
                return false;
        }
    }

    private static boolean wouldCircle(Counter own, Counter stepped) {
        return stepped != null && (stepped == own || (stepped.leadsTo & own.bit) != 0);
    }

    /** Keeps leadsTo whole, so that wouldCircle needs no search. */
    private void link(Counter own, Counter stepped) {
        if (stepped == null) {
            return;
        }
        int added = stepped.leadsTo | stepped.bit;
        for (int i = 0; i < counterCount; i++) {
            Counter c = counters[i];
            if (c != null && (c == own || (c.leadsTo & own.bit) != 0)) {
                c.leadsTo |= added;
            }
        }
    }

    /** wouldCircle keeps the counters of a chain of STEPS apart, so depth stays within their number. */
    private void makeStep(Counter c, int depth) {
        c.advance();
        if (c.steps < c.wake) {
            return;
        }
        // Each turn below tells anew when its alarm or table wants to be looked at.
        c.wake = NEVER;
        for (Alarm a = c.firstAlarm; a != null; a = a.behind) {
            takeAlarmTurn(a, depth);
        }
        for (Table t = c.firstTable; t != null; t = t.behind) {
            takeTableTurn(t, depth);
        }
    }

    private void takeAlarmTurn(Alarm a, int depth) {
        if (!a.isSet) {
            return;
        }
        if (a.due != a.counter.steps) {
            a.counter.wakeAt(a.due);
            return;
        }
        notes.add(KIND_ALARM, a.number, 0, a.counter.value);
        // Before the ACT, which may cancel this very alarm by way of another counter.
        if (a.cycle == 0) {
            a.isSet = false;
        } else {
            a.becomeDue(a.cycle);
        }
        perform(a.act, depth);
    }

    private void takeTableTurn(Table t, int depth) {
        if (!t.runs) {
            return;
        }
        if (t.due != t.counter.steps) {
            t.counter.wakeAt(t.due);
            return;
        }
        Table now = t;
        for (int i = 0; i < MOST_TURNS_IN_A_STEP && now != null && now.due == now.counter.steps; i++) {
            now = goThrough(now, depth);
        }
    }

    /** One thing that a table is DUE for; answers the table that goes on, or null. */
    private Table goThrough(Table t, int depth) {
        if (!t.begun) {
            t.begun = true;
            t.goOn(0, t.firstPoint);
            return t;
        }
        Point p = t.coming;
        if (p == null) {
            return giveOver(t);
        }
        notes.add(KIND_POINT, t.number, p.offset, t.counter.value);
        t.goOn(p.offset, p.behind);
        perform(p.act, depth);
        return t;
    }

    private Table giveOver(Table t) {
        notes.add(KIND_END, t.number, 0, t.counter.value);
        t.runs = false;
        Table told = t.told;
        if (told == null || told.runs) {
            return null;
        }
        if (told != t) {
            told.drift = 0;
        }
        told.runFrom(t.counter.steps);
        return told;
    }

    private void perform(Act act, int depth) {
        if (act.cancelled != null) {
            act.cancelled.isSet = false;
        }
        if (act.stepped != null && actSteps < MOST_ACT_STEPS && depth < MOST_COUNTERS) {
            actSteps++;
            makeStep(act.stepped, depth + 1);
        }
    }
}
