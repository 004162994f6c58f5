import java.util.List;

/**
 * Refusals change nothing: each refused call is made on an object in the midst of its work, and a long row of calls
 * behind it must be answered just as by an object that was not asked at all.
 */
final class RefusalsTest {
    private static final Due due = new Due();

    /** Alarms SET and not, ticks kept, tables begun, to begin and stopped, DEVIATIONs left, leads between counters. */
    private static final List<String> AT_WORK = List.of(
        "counter(10, 1)", "counter(7, 3)", "counter(1000000000, 1000)", "counter(1, 1)",
        "alarm(1, 0, 0)", "alarm(1, 1, 2)", "alarm(2, 2, 1)", "alarm(3, 0, 0)", "alarm(4, 0, 0)",
        "set(1, 3, 4, false)", "set(2, 5, 2, false)", "set(3, 4, 3, true)", "set(5, 0, 0, true)",
        "table(1, 6)", "table(1, 3)", "table(2, 5)", "table(1, 4)", "table(3, 1)", "table(1, 1)",
        "point(1, 0, 2)", "point(1, 4, -1)", "point(1, 6, 0)", "point(2, 1, 3)", "point(3, 5, 0)",
        "next(1, 2)", "next(2, 1)", "next(4, 4)",
        "start(1, 2)", "sync(1, 5)", "start(4, 9)", "sync(4, -3)", "start(6, 1)", "sync(6, -9)",
        "tick(1, 6)", "tick(2, 2)", "tick(3, 999)");

    private static final List<String> BEHIND_WORK = Rows.of(
        Rows.each(1, 6, "deviation(#)"),
        List.of("expired(-1, 0)", "tick(1, 1)", "tick(2, 1)", "tick(3, 1)", "tick(4, 1)", "tick(1, 2)", "tick(2, 4)"),
        Rows.each(1, 6, "sync(#, 1)"),
        List.of("tick(1, 9)", "tick(2, 5)"),
        Rows.each(1, 6, "deviation(#)"),
        Rows.each(1, 6, "start(#, 1)"),
        List.of("tick(1, 6)", "tick(2, 10)", "tick(3, 2000)", "log(0)"),
        Rows.each(1, 6, "cancel(#)"),
        List.of("alarm(3, 1, 1)", "alarm(2, 1, 1)", "alarm(4, 1, 1)", "alarm(3, 1, 2)", "alarm(2, 1, 4)", "alarm(1, 1, 4)",
            "alarm(2, 1, 3)", "point(3, 2, 4)", "point(3, 1, 0)", "point(5, 0, 2)", "counter(5, 1)", "table(1, 5)",
            "tick(1, 9)", "expired(-1, 0)"));

    /** No room anywhere: 20 counters, 100 alarms, 20 tables, and 20 POINTS in table 1. */
    private static final List<String> FULL = Rows.of(
        Rows.each(1, 20, "counter(10, 1)"),
        Rows.each(1, 99, "alarm(1, 0, 0)"),
        List.of("alarm(2, 2, 99)"),
        Rows.each(1, 20, "table(#, 30)"),
        Rows.each(1, 20, "point(1, #, 0)"),
        List.of("set(99, 9, 9, false)", "set(100, 1, 0, false)", "start(20, 3)"));

    private static final List<String> BEHIND_FULL = Rows.of(
        List.of("tick(1, 9)", "tick(2, 1)", "tick(20, 40)", "expired(-1, 0)"),
        Rows.each(98, 101, "cancel(#)"),
        Rows.each(2, 20, "point(#, 0, 1)"),
        List.of("start(1, 1)", "start(2, 1)", "tick(1, 9)", "tick(2, 40)", "log(0)", "tick(21, 1)", "start(21, 1)"));

    public static void main(String[] args) {
        makingIsRefused();
        usingIsRefused();
        askingIsRefused();
        roomIsRefused();
        due.end();
    }

    private static void refused(String promise, List<String> before, List<String> behind, String... rows) {
        Rows untouched = new Rows();
        untouched.answers(before);
        String want = String.join("; ", untouched.answers(behind));
        for (String row : rows) {
            String[] parts = row.split(" ! ", 2);
            due.in("refusals change nothing, " + promise + ", " + row);
            Rows asked = new Rows();
            asked.answers(before);
            due.is(parts[0], asked.answer(parts[0]), parts[1]);
            due.is("what is asked behind it", String.join("; ", asked.answers(behind)), want);
        }
    }

    private static void atWork(String promise, String... rows) {
        refused(promise, AT_WORK, BEHIND_WORK, rows);
    }

    private static void makingIsRefused() {
        atWork("promise 2", "counter(-1, 1) ! -2", "counter(1000000001, 1) ! -2", "counter(10, 0) ! -2",
            "counter(10, 1001) ! -2", "counter(0, 0) ! -2", "counter(0, 1) ! throws");
        atWork("promise 3", "alarm(0, 0, 0) ! -1", "alarm(5, 1, 1) ! -1", "alarm(1, 0, 1) ! -1", "alarm(1, 1, 5) ! -1",
            "alarm(1, 2, 6) ! -1", "alarm(1, 3, 0) ! -2", "alarm(1, -1, 1) ! -2", "alarm(1, 1, 1) ! -3",
            "alarm(2, 1, 1) ! -3", "alarm(3, 1, 1) ! -3");
        atWork("promise 6", "table(0, 5) ! -1", "table(5, 5) ! -1", "table(1, 0) ! -2", "table(1, 1000001) ! -2");
        atWork("promise 7", "point(0, 1, 0) ! -1", "point(7, 1, 0) ! -1", "point(3, 1, 5) ! -1", "point(3, 1, -6) ! -1",
            "point(3, -1, 3) ! -2", "point(3, 6, 3) ! -2", "point(3, 5, 3) ! -3", "point(1, 1, 3) ! -3",
            "point(4, 1, 4) ! -3", "point(3, 1, 2) ! -3", "point(3, 1, 1) ! -3");
    }

    private static void usingIsRefused() {
        atWork("promise 4", "set(0, 1, 0, false) ! -1", "set(6, 1, 0, false) ! -1", "set(1, 1, 0, false) ! 2",
            "set(1, 0, 2, true) ! 2", "set(2, 1, 9, false) ! 2", "set(4, 0, 0, false) ! 3",
            "set(4, 1000000000, 0, false) ! 3", "set(4, -1, 2, true) ! 3", "set(4, 1000000000, 0, true) ! 3",
            "set(4, 1, 1, false) ! 4", "set(4, 1, 1000000001, true) ! 4", "set(4, 1, -2, true) ! 4");
        atWork("promise 5", "cancel(0) ! -1", "cancel(6) ! -1", "cancel(4) ! 5");
        atWork("promise 8", "start(0, 1) ! -1", "start(7, 1) ! -1", "start(1, 1) ! 2", "start(4, 1) ! 2",
            "start(2, 0) ! 3", "start(3, 0) ! 3", "start(3, 1000001) ! 3", "start(6, 0) ! 3", "start(6, 1000001) ! 3");
        atWork("promise 9", "next(0, 1) ! -1", "next(7, 0) ! -1", "next(1, 7) ! -1", "next(1, -1) ! -1", "next(1, 3) ! -3",
            "next(2, 5) ! -3", "next(3, 1) ! -3", "next(4, 5) ! -3");
        atWork("promise 10", "sync(0, 1) ! -1", "sync(7, 1) ! -1", "sync(1, 998) ! -2", "sync(1, -1004) ! -2",
            "sync(4, most) ! -2", "sync(6, -992) ! -2", "sync(3, 1001) ! -2", "sync(2, 1) ! -3", "sync(3, 5) ! -3",
            "sync(6, 5) ! -3");
        atWork("promise 11", "tick(0, 1) ! -1", "tick(5, 1) ! -1", "tick(1, -1) ! -2", "tick(1, 5001) ! -2",
            "tick(2, 15001) ! -2", "tick(2, -1) ! -2", "tick(3, 100001) ! -2", "tick(3, least) ! -2");
    }

    private static void askingIsRefused() {
        atWork("promise 12", "expired(-2, 0) ! -1", "expired(-1, 1) ! -1", "expired(3000, 0) ! -1", "expired(0, -1) ! -2",
            "expired(0, 4) ! -2");
        atWork("promise 13", "deviation(0) ! 0", "deviation(7) ! 0");
    }

    private static void roomIsRefused() {
        refused("promise 2", FULL, BEHIND_FULL, "counter(10, 1) ! -4", "counter(0, 1) ! -4", "counter(-1, 1) ! -2");
        refused("promise 3", FULL, BEHIND_FULL, "alarm(1, 0, 0) ! -4", "alarm(1, 1, 2) ! -4", "alarm(1, 1, 20) ! -4",
            "alarm(1, 2, 99) ! -4", "alarm(1, 1, 1) ! -3", "alarm(1, 3, 0) ! -2", "alarm(21, 0, 0) ! -1");
        refused("promise 6", FULL, BEHIND_FULL, "table(1, 5) ! -4", "table(20, 1000000) ! -4", "table(1, 0) ! -2",
            "table(21, 5) ! -1");
        refused("promise 7", FULL, BEHIND_FULL, "point(1, 0, 0) ! -4", "point(1, 30, 2) ! -4", "point(1, 0, -99) ! -4",
            "point(1, 1, 0) ! -3", "point(1, 0, 1) ! -3", "point(1, 31, 0) ! -2", "point(1, 0, 21) ! -1");
    }
}
