import java.util.List;

/** One test for each sentence of the promises 1 to 13 that names a boundary case. */
final class PromisesBoundaryTest {
    private static final Due due = new Due();

    public static void main(String[] args) {
        newObject();
        counterRanges();
        counterRoom();
        alarmNumbers();
        alarmCircles();
        alarmRoom();
        setRelative();
        setAbsolute();
        setCycles();
        setAlready();
        cancel();
        table();
        pointNumbers();
        pointStates();
        pointRoom();
        start();
        next();
        sync();
        tickRanges();
        tickCounts();
        expiredKinds();
        expiredExtremes();
        deviation();
        due.end();
    }

    private static void says(String sentence, String... rows) {
        Rows.check(due, sentence, List.of(rows));
    }

    private static void says(String sentence, List<String> rows) {
        Rows.check(due, sentence, rows);
    }

    private static void newObject() {
        says("promise 1: no counters", "tick(1, 0) ! -1", "tick(0, 0) ! -1", "alarm(1, 0, 0) ! -1", "table(1, 1) ! -1",
            "counter(10, 1) = 1");
        says("promise 1: nothing there yet, no alarms", "set(1, 1, 0, false) ! -1", "cancel(1) ! -1",
            "counter(10, 1) = 1", "set(1, 1, 0, false) ! -1", "cancel(1) ! -1", "alarm(1, 2, 1) ! -1",
            "alarm(1, 0, 0) = 1");
        says("promise 1: nothing there yet, no tables", "point(1, 0, 0) ! -1", "start(1, 1) ! -1", "next(1, 0) ! -1",
            "sync(1, 0) ! -1", "deviation(1) = 0", "counter(10, 1) = 1", "start(1, 1) ! -1", "table(1, 1) = 1");
        says("promise 1: nothing there yet, none EXPIRED", "expired(-1, 0) = 0", "expired(0, 0) ! -1",
            "expired(0, 3) ! -1", "counter(10, 1) = 1", "tick(1, 5000) = 0", "expired(-1, 0) = 0", "expired(0, 0) ! -1");
    }

    private static void counterRanges() {
        says("promise 2: -2 the BASE is below 0", "counter(-1, 1) ! -2", "counter(-1000000000, 1) ! -2",
            "counter(-4294967286, 1) ! -2", "counter(least, 1) ! -2", "counter(1, 1) = 1");
        says("promise 2: -2 the BASE is above 1000000000", "counter(1000000001, 1) ! -2", "counter(4294967306, 1) ! -2",
            "counter(most, 1) ! -2", "counter(1000000000, 1) = 1");
        says("promise 2: -2 ticks are none (not 1 .. 1000)", "counter(10, 0) ! -2", "counter(10, -1) ! -2",
            "counter(10, least) ! -2", "counter(10, 1001) ! -2", "counter(10, 4294967297) ! -2", "counter(10, most) ! -2",
            "counter(10, 1) = 1", "counter(10, 1000) = 2");
        says("promise 2: ArithmeticException when the BASE is 0", "counter(0, 1) ! throws", "counter(0, 1000) ! throws",
            "tick(1, 0) ! -1", "counter(1, 1) = 1", "counter(0, 1) ! throws", "counter(1, 1) = 2");
        says("promise 2: -2, the first that fits, when the BASE is 0 and ticks are none", "counter(0, 0) ! -2",
            "counter(0, -1) ! -2", "counter(0, 1001) ! -2", "counter(1, 1) = 1");
    }

    private static void counterRoom() {
        says("promise 2: a counter: its number; -4 there are 20", Rows.of(
            Rows.each(1, 19, "counter(#, #) = #"),
            List.of("tick(20, 0) ! -1", "counter(20, 1) = 20", "counter(21, 1) ! -4", "counter(1000000000, 1000) ! -4",
                "tick(21, 0) ! -1", "alarm(20, 0, 0) = 1", "set(1, 20, 0, false) ! 3", "set(1, 19, 0, false) = 1",
                "tick(20, 19) = 1", "log(0) = A1@19")));
        says("promise 2: ArithmeticException when there is room, for one still", Rows.of(
            Rows.each(1, 19, "counter(10, 1) = #"),
            List.of("counter(0, 1) ! throws", "counter(10, 1) = 20")));
        says("promise 2: ArithmeticException, but not without room", Rows.of(
            Rows.each(1, 20, "counter(10, 1) = #"),
            List.of("counter(0, 1) ! -4", "counter(0, 1000) ! -4", "tick(20, 1) = 0")));
    }

    private static void alarmNumbers() {
        says("promise 3: -1 there is no such counter", "alarm(1, 0, 0) ! -1", "counter(10, 1) = 1", "counter(10, 1) = 2",
            "alarm(0, 0, 0) ! -1", "alarm(-1, 0, 0) ! -1", "alarm(3, 0, 0) ! -1", "alarm(3, 1, 1) ! -1",
            "alarm(most, 0, 0) ! -1", "alarm(least, 0, 0) ! -1", "alarm(1, 0, 0) = 1", "alarm(2, 0, 0) = 2");
        says("promise 3: -1 there is no counter for its ACT", "counter(10, 1) = 1", "alarm(1, 1, 2) ! -1",
            "counter(10, 1) = 2", "alarm(1, 1, 0) ! -1", "alarm(1, 1, -1) ! -1", "alarm(1, 1, 3) ! -1",
            "alarm(1, 1, most) ! -1", "alarm(1, 1, least) ! -1", "alarm(1, 1, 2) = 1");
        says("promise 3: -1 there is no alarm for its ACT", "counter(10, 1) = 1", "alarm(1, 2, 0) ! -1",
            "alarm(1, 2, 1) ! -1", "alarm(1, 0, 0) = 1", "alarm(1, 2, 0) ! -1", "alarm(1, 2, -1) ! -1",
            "alarm(1, 2, 2) ! -1", "alarm(1, 2, most) ! -1", "alarm(1, 2, least) ! -1", "alarm(1, 2, 1) = 2");
        says("promise 3: of is 0 for ACT 0", "counter(10, 1) = 1", "alarm(1, 0, 1) ! -1", "alarm(1, 0, -1) ! -1",
            "alarm(1, 0, most) ! -1", "alarm(1, 0, least) ! -1", "alarm(1, 0, 0) = 1", "alarm(1, 0, 1) ! -1",
            "alarm(1, 0, 0) = 2");
        says("promise 3: -2 no such ACT", "counter(10, 1) = 1", "counter(10, 1) = 2", "alarm(1, -1, 0) ! -2",
            "alarm(1, 3, 0) ! -2", "alarm(1, 3, 1) ! -2", "alarm(1, -1, 99) ! -2", "alarm(1, most, 0) ! -2",
            "alarm(1, least, 0) ! -2", "alarm(1, 0, 0) = 1", "alarm(1, 1, 2) = 2", "alarm(1, 2, 1) = 3");
    }

    private static void alarmCircles() {
        says("promise 3: -3 the other counter is this one", "counter(10, 1) = 1", "alarm(1, 1, 1) ! -3",
            "counter(10, 1) = 2", "alarm(2, 1, 2) ! -3", "alarm(1, 1, 1) ! -3", "alarm(1, 1, 2) = 1",
            "alarm(1, 1, 1) ! -3");
        says("promise 3: -3 STEPS of it lead to STEPS of this one by an alarm", "counter(10, 1) = 1",
            "counter(10, 1) = 2", "alarm(2, 1, 1) = 1", "alarm(1, 1, 2) ! -3", "alarm(2, 1, 1) = 2");
        says("promise 3: -3 STEPS of it lead to STEPS of this one by a POINT", "counter(10, 1) = 1", "counter(10, 1) = 2",
            "table(2, 5) = 1", "point(1, 5, 1) = 1", "alarm(1, 1, 2) ! -3", "alarm(2, 1, 1) = 1");
        says("promise 3: -3 by alarms and POINTS of others, the first link made last", "counter(10, 1) = 1",
            "counter(10, 1) = 2", "counter(10, 1) = 3", "counter(10, 1) = 4", "table(3, 5) = 1", "point(1, 0, 4) = 1",
            "alarm(2, 1, 3) = 1", "alarm(1, 1, 2) = 2", "alarm(4, 1, 1) ! -3", "alarm(4, 1, 2) ! -3",
            "alarm(4, 1, 3) ! -3", "alarm(3, 1, 1) ! -3", "alarm(1, 1, 4) = 3");
        says("promise 3: -3 by alarms of others, the last link made last", "counter(10, 1) = 1", "counter(10, 1) = 2",
            "counter(10, 1) = 3", "counter(10, 1) = 4", "alarm(1, 1, 2) = 1", "alarm(2, 1, 3) = 2", "alarm(3, 1, 4) = 3",
            "alarm(4, 1, 1) ! -3", "alarm(4, 1, 2) ! -3", "alarm(4, 1, 3) ! -3");
        says("promise 3: -3 by alarms of others, the link between made last", "counter(10, 1) = 1", "counter(10, 1) = 2",
            "counter(10, 1) = 3", "counter(10, 1) = 4", "alarm(1, 1, 2) = 1", "alarm(3, 1, 4) = 2", "alarm(4, 1, 1) = 3",
            "alarm(2, 1, 3) ! -3", "alarm(2, 1, 4) ! -3", "alarm(3, 1, 2) = 4");
        says("promise 3: -3 by way of all twenty", Rows.of(
            Rows.each(1, 20, "counter(10, 1) = #"),
            Rows.each(1, 19, "alarm(#, 1, 20) = #"),
            Rows.each(1, 19, "alarm(20, 1, #) ! -3")));
        says("promise 3: two ways to one counter are no circle", "counter(10, 1) = 1", "counter(10, 1) = 2",
            "counter(10, 1) = 3", "alarm(1, 1, 2) = 1", "alarm(1, 1, 3) = 2", "alarm(2, 1, 3) = 3", "alarm(3, 1, 1) ! -3",
            "alarm(3, 1, 2) ! -3");
        says("promise 3: ACTs that cancel lead to no STEPS", "counter(10, 1) = 1", "counter(10, 1) = 2",
            "alarm(1, 0, 0) = 1", "alarm(2, 2, 1) = 2", "alarm(1, 2, 2) = 3", "alarm(1, 1, 2) = 4", "table(2, 5) = 1",
            "point(1, 0, -4) = 1");
        says("promise 3: what was refused leads to no STEPS", "counter(10, 1) = 1", "counter(10, 1) = 2",
            "counter(10, 1) = 3", "alarm(2, 1, 1) = 1", "alarm(1, 1, 2) ! -3", "alarm(3, 1, 2) = 2",
            "alarm(1, 1, 3) ! -3", "alarm(2, 1, 3) ! -3", "alarm(3, 1, 1) = 3", "alarm(2, 1, 1) = 4");
        says("promise 3: an alarm that is not SET leads to STEPS, too", "counter(10, 1) = 1", "counter(10, 1) = 2",
            "alarm(2, 1, 1) = 1", "set(1, 1, 0, false) = 1", "alarm(1, 1, 2) ! -3", "cancel(1) = 1",
            "alarm(1, 1, 2) ! -3");
    }

    private static void alarmRoom() {
        says("promise 3: an alarm: its number; -4 there are 100", Rows.of(
            List.of("counter(10, 1) = 1", "counter(10, 1) = 2"),
            Rows.each(1, 99, "alarm(1, 0, 0) = #"),
            List.of("set(100, 1, 0, false) ! -1", "alarm(2, 2, 99) = 100", "alarm(1, 0, 0) ! -4", "alarm(2, 2, 100) ! -4",
                "set(101, 1, 0, false) ! -1", "set(99, 5, 0, false) = 1", "set(100, 1, 0, false) = 1", "tick(2, 1) = 1",
                "cancel(99) ! 5", "log(0) = A100@1")));
        says("promise 3: -4 leads to no STEPS", Rows.of(
            List.of("counter(10, 1) = 1", "counter(10, 1) = 2"),
            Rows.each(1, 100, "alarm(1, 0, 0) = #"),
            List.of("alarm(1, 1, 2) ! -4", "table(2, 5) = 1", "point(1, 0, 1) = 1")));
    }

    private static void setRelative() {
        says("promise 4: 3 at is not 1 .. BASE - 1", "counter(10, 1) = 1", "alarm(1, 0, 0) = 1", "alarm(1, 0, 0) = 2",
            "set(1, 0, 0, false) ! 3", "set(1, -1, 0, false) ! 3", "set(1, 10, 0, false) ! 3", "set(1, least, 0, false) ! 3",
            "set(1, most, 0, false) ! 3", "set(1, 4294967297, 0, false) ! 3", "cancel(1) ! 5", "set(1, 1, 0, false) = 1",
            "set(2, 9, 0, false) = 1", "tick(1, 1) = 1", "tick(1, 7) = 0", "tick(1, 1) = 1", "log(0) = A1@1 A2@9");
        says("promise 4: 3 at is not 1 .. BASE - 1, with BASE 1 no at", "counter(1, 1) = 1", "alarm(1, 0, 0) = 1",
            "set(1, 0, 0, false) ! 3", "set(1, 1, 0, false) ! 3", "set(1, 2, 0, false) ! 3", "cancel(1) ! 5");
        says("promise 4: 3 at is not 1 .. BASE - 1, with BASE 2 one at", "counter(2, 1) = 1", "alarm(1, 0, 0) = 1",
            "set(1, 0, 0, false) ! 3", "set(1, 2, 0, false) ! 3", "set(1, 1, 0, false) = 1", "tick(1, 1) = 1");
        says("promise 4: 3 at is not 1 .. BASE - 1, with the largest BASE", "counter(1000000000, 1) = 1",
            "alarm(1, 0, 0) = 1", "set(1, 1000000000, 0, false) ! 3", "set(1, 999999999, 0, false) = 1",
            "tick(1, 5000) = 0", "cancel(1) = 1");
        says("promise 4: relative: in at STEPS, beyond the wrap-around", "counter(10, 1) = 1", "alarm(1, 0, 0) = 1",
            "tick(1, 9) = 0", "set(1, 1, 0, false) = 1", "tick(1, 1) = 1", "tick(1, 7) = 0", "set(1, 9, 0, false) = 1",
            "tick(1, 8) = 0", "tick(1, 1) = 1", "log(0) = A1@0 A1@6");
        says("promise 4: -1 there is no alarm", "counter(10, 1) = 1", "set(1, 1, 0, false) ! -1", "alarm(1, 0, 0) = 1",
            "set(0, 1, 0, false) ! -1", "set(-1, 1, 0, false) ! -1", "set(2, 1, 0, false) ! -1", "set(2, 0, 1, true) ! -1",
            "set(most, 1, 0, false) ! -1", "set(least, 1, 0, false) ! -1", "cancel(1) ! 5", "set(1, 1, 0, false) = 1");
    }

    private static void setAbsolute() {
        says("promise 4: 3 absolute: at is not 0 .. BASE - 1", "counter(10, 1) = 1", "alarm(1, 0, 0) = 1",
            "alarm(1, 0, 0) = 2", "set(1, -1, 0, true) ! 3", "set(1, 10, 0, true) ! 3", "set(1, least, 0, true) ! 3",
            "set(1, most, 0, true) ! 3", "set(1, 4294967296, 0, true) ! 3", "cancel(1) ! 5", "set(1, 0, 0, true) = 1",
            "set(2, 9, 0, true) = 1", "tick(1, 8) = 0", "tick(1, 1) = 1", "tick(1, 1) = 1", "log(0) = A2@9 A1@0");
        says("promise 4: 3 absolute: at is not 0 .. BASE - 1, with BASE 1", "counter(1, 1) = 1", "alarm(1, 0, 0) = 1",
            "set(1, 1, 0, true) ! 3", "set(1, -1, 0, true) ! 3", "set(1, 0, 0, true) = 1", "tick(1, 1) = 1",
            "tick(1, 9) = 0");
        says("promise 4: behind a whole round, if it is that: 0", "counter(10, 1) = 1", "alarm(1, 0, 0) = 1",
            "tick(1, 10) = 0", "set(1, 0, 0, true) = 1", "tick(1, 9) = 0", "tick(1, 1) = 1", "log(0) = A1@0");
        says("promise 4: behind a whole round, if it is that: BASE - 1", "counter(10, 1) = 1", "alarm(1, 0, 0) = 1",
            "tick(1, 9) = 0", "set(1, 9, 0, true) = 1", "tick(1, 9) = 0", "tick(1, 1) = 1", "log(0) = A1@9");
        says("promise 4: absolute: the next VALUE is no round away", "counter(10, 1) = 1", "alarm(1, 0, 0) = 1",
            "tick(1, 5) = 0", "set(1, 6, 0, true) = 1", "tick(1, 1) = 1", "log(0) = A1@6");
        says("promise 4: absolute: the VALUE before is a round but one STEP away", "counter(10, 1) = 1",
            "alarm(1, 0, 0) = 1", "tick(1, 5) = 0", "set(1, 4, 0, true) = 1", "tick(1, 8) = 0", "tick(1, 1) = 1",
            "log(0) = A1@4");
        says("promise 4: absolute: from BASE - 1 to 0 is one STEP", "counter(10, 1) = 1", "alarm(1, 0, 0) = 1",
            "tick(1, 9) = 0", "set(1, 0, 0, true) = 1", "tick(1, 1) = 1", "log(0) = A1@0");
    }

    private static void setCycles() {
        says("promise 4: 4 the CYCLE is not 0, and not 2 .. BASE", "counter(10, 1) = 1", "alarm(1, 0, 0) = 1",
            "alarm(1, 0, 0) = 2", "alarm(1, 0, 0) = 3", "set(1, 1, 1, false) ! 4", "set(1, 1, -1, false) ! 4",
            "set(1, 1, -2, false) ! 4", "set(1, 1, 11, false) ! 4", "set(1, 1, least, false) ! 4",
            "set(1, 1, most, true) ! 4", "set(1, 1, 4294967298, true) ! 4", "cancel(1) ! 5", "set(1, 1, 0, false) = 1",
            "set(2, 1, 2, false) = 1", "set(3, 1, 10, false) = 1", "tick(1, 11) = 9",
            "log(0) = A1@1 A2@1 A3@1 A2@3 A2@5 A2@7 A2@9 A2@1 A3@1");
        says("promise 4: 4 the CYCLE, with BASE 1 only 0", "counter(1, 1) = 1", "alarm(1, 0, 0) = 1",
            "set(1, 0, 1, true) ! 4", "set(1, 0, 2, true) ! 4", "set(1, 0, 0, true) = 1", "tick(1, 3) = 1");
        says("promise 4: 4 the CYCLE, with BASE 2 only 0 and 2", "counter(2, 1) = 1", "alarm(1, 0, 0) = 1",
            "set(1, 0, 1, true) ! 4", "set(1, 0, 3, true) ! 4", "set(1, 0, 2, true) = 1", "tick(1, 5) = 2",
            "log(0) = A1@0 A1@0");
        says("promise 4: 4 the CYCLE, with the largest BASE", "counter(1000000000, 1) = 1", "alarm(1, 0, 0) = 1",
            "set(1, 1, 1000000001, false) ! 4", "set(1, 1, 1000000000, false) = 1", "tick(1, 5000) = 1", "cancel(1) = 1");
        says("promise 4: 3 before 4", "counter(10, 1) = 1", "alarm(1, 0, 0) = 1", "set(1, 0, 1, false) ! 3",
            "set(1, 10, 11, false) ! 3", "set(1, 10, 11, true) ! 3", "set(1, -1, 1, true) ! 3", "cancel(1) ! 5");
    }

    private static void setAlready() {
        says("promise 4: 2 it is SET already (then nothing changes)", "counter(10, 1) = 1", "alarm(1, 0, 0) = 1",
            "set(1, 5, 3, false) = 1", "set(1, 1, 0, false) ! 2", "set(1, 1, 2, true) ! 2", "tick(1, 4) = 0",
            "set(1, 9, 9, false) ! 2", "tick(1, 4) = 2", "set(1, 1, 0, false) ! 2", "tick(1, 3) = 1",
            "log(0) = A1@5 A1@8 A1@1");
        says("promise 4: 2 before 3 and 4", "counter(10, 1) = 1", "alarm(1, 0, 0) = 1", "set(1, 2, 0, false) = 1",
            "set(1, 0, 0, false) ! 2", "set(1, 10, 0, true) ! 2", "set(1, 1, 1, false) ! 2", "set(1, most, most, true) ! 2",
            "tick(1, 1) = 0", "tick(1, 1) = 1");
        says("promise 4: SET anew behind its expiry, and behind cancel", "counter(10, 1) = 1", "alarm(1, 0, 0) = 1",
            "set(1, 1, 0, false) = 1", "tick(1, 1) = 1", "set(1, 9, 0, false) = 1", "tick(1, 8) = 0", "cancel(1) = 1",
            "set(1, 2, 0, false) = 1", "tick(1, 1) = 0", "tick(1, 1) = 1", "log(0) = A1@1 A1@1");
        says("promise 4: SET anew with another CYCLE, or none", "counter(10, 1) = 1", "alarm(1, 0, 0) = 1",
            "set(1, 1, 3, false) = 1", "tick(1, 4) = 2", "cancel(1) = 1", "set(1, 1, 2, false) = 1", "tick(1, 3) = 2",
            "cancel(1) = 1", "set(1, 1, 0, false) = 1", "tick(1, 9) = 1", "cancel(1) ! 5",
            "log(0) = A1@1 A1@4 A1@5 A1@7 A1@8");
    }

    private static void cancel() {
        says("promise 5: an alarm is SET no more: 1", "counter(10, 1) = 1", "alarm(1, 0, 0) = 1", "alarm(1, 0, 0) = 2",
            "set(1, 2, 2, false) = 1", "set(2, 2, 0, false) = 1", "tick(1, 1) = 0", "cancel(1) = 1", "tick(1, 9) = 1",
            "log(0) = A2@2");
        says("promise 5: 5 if it was not", "counter(10, 1) = 1", "alarm(1, 0, 0) = 1", "cancel(1) ! 5",
            "set(1, 1, 0, false) = 1", "cancel(1) = 1", "cancel(1) ! 5", "set(1, 1, 0, false) = 1", "tick(1, 1) = 1",
            "cancel(1) ! 5", "set(1, 1, 2, false) = 1", "tick(1, 1) = 1", "cancel(1) = 1", "cancel(1) ! 5");
        says("promise 5: -1 there is none", "cancel(1) ! -1", "counter(10, 1) = 1", "alarm(1, 0, 0) = 1",
            "set(1, 1, 0, false) = 1", "cancel(0) ! -1", "cancel(-1) ! -1", "cancel(2) ! -1", "cancel(101) ! -1",
            "cancel(most) ! -1", "cancel(least) ! -1", "tick(1, 1) = 1");
    }

    private static void table() {
        says("promise 6: -1 there is no counter", "table(1, 5) ! -1", "counter(10, 1) = 1", "table(0, 5) ! -1",
            "table(-1, 5) ! -1", "table(2, 5) ! -1", "table(most, 5) ! -1", "table(least, 5) ! -1", "table(1, 5) = 1");
        says("promise 6: -2 the LENGTH is not 1 .. 1000000", "counter(10, 1) = 1", "table(1, 0) ! -2", "table(1, -1) ! -2",
            "table(1, 1000001) ! -2", "table(1, least) ! -2", "table(1, most) ! -2", "table(1, 4294967297) ! -2",
            "table(1, 1) = 1", "table(1, 1000000) = 2", "point(2, 1000001, 0) ! -2", "point(2, 1000000, 0) = 1",
            "start(1, 1) = 1", "tick(1, 2) = 1", "log(0) = E1@2");
        says("promise 6: a table: its number; -4 there are 20", Rows.of(
            List.of("counter(10, 1) = 1", "counter(10, 1) = 2"),
            Rows.each(1, 19, "table(1, #) = #"),
            List.of("start(20, 1) ! -1", "table(2, 3) = 20", "table(1, 5) ! -4", "table(2, 5) ! -4", "start(21, 1) ! -1",
                "start(20, 1) = 1", "tick(2, 4) = 1", "log(0) = E20@4")));
        says("promise 6: a LENGTH above the BASE", "counter(2, 1) = 1", "table(1, 5) = 1", "start(1, 1) = 1",
            "tick(1, 5) = 0", "tick(1, 1) = 1", "log(0) = E1@0");
    }

    private static void pointNumbers() {
        says("promise 7: -1 there is no table", "point(1, 0, 0) ! -1", "counter(10, 1) = 1", "table(1, 5) = 1",
            "point(0, 0, 0) ! -1", "point(-1, 0, 0) ! -1", "point(2, 0, 0) ! -1", "point(most, 0, 0) ! -1",
            "point(least, 0, 0) ! -1", "point(1, 0, 0) = 1");
        says("promise 7: -1 there is no such counter", "counter(10, 1) = 1", "table(1, 5) = 1", "point(1, 0, 2) ! -1",
            "counter(10, 1) = 2", "point(1, 0, 3) ! -1", "point(1, 0, most) ! -1", "point(1, 0, 2) = 1");
        says("promise 7: -1 there is no such alarm", "counter(10, 1) = 1", "table(1, 5) = 1", "point(1, 0, -1) ! -1",
            "alarm(1, 0, 0) = 1", "point(1, 0, -2) ! -1", "point(1, 0, least) ! -1", "point(1, 0, -1) = 1");
        says("promise 7: -2 the OFFSET is not 0 .. LENGTH", "counter(10, 1) = 1", "table(1, 5) = 1",
            "point(1, -1, 0) ! -2", "point(1, 6, 0) ! -2", "point(1, least, 0) ! -2", "point(1, most, 0) ! -2",
            "point(1, 4294967296, 0) ! -2", "point(1, 5, 0) = 1", "point(1, 0, 0) = 2", "start(1, 1) = 1",
            "tick(1, 9) = 3", "log(0) = P1:0@1 P1:5@6 E1@6");
        says("promise 7: -2 the OFFSET is not 0 .. LENGTH, with LENGTH 1", "counter(10, 1) = 1", "table(1, 1) = 1",
            "point(1, 2, 0) ! -2", "point(1, -1, 0) ! -2", "point(1, 0, 0) = 1", "point(1, 1, 0) = 2", "start(1, 1) = 1",
            "tick(1, 2) = 3", "log(0) = P1:0@1 P1:1@2 E1@2");
    }

    private static void pointStates() {
        says("promise 7: -3 there is one", "counter(10, 1) = 1", "table(1, 5) = 1", "table(1, 5) = 2",
            "point(1, 0, 0) = 1", "point(1, 5, 0) = 2", "point(1, 3, 0) = 3", "point(1, 0, 0) ! -3",
            "point(1, 3, 0) ! -3", "point(1, 5, 0) ! -3", "point(2, 3, 0) = 1", "point(1, 4, 0) = 4");
        says("promise 7: -3 the table runs (or is to begin)", "counter(10, 1) = 1", "table(1, 2) = 1", "start(1, 2) = 1",
            "point(1, 0, 0) ! -3", "tick(1, 2) = 0", "point(1, 1, 0) ! -3", "tick(1, 1) = 0", "point(1, 2, 0) ! -3",
            "tick(1, 1) = 1", "point(1, 2, 0) = 1", "start(1, 1) = 1", "tick(1, 3) = 2", "log(0) = E1@4 P1:2@7 E1@7");
        says("promise 7: -3 the table runs as NEXT", "counter(10, 1) = 1", "table(1, 1) = 1", "table(1, 2) = 2",
            "next(1, 2) = 1", "start(1, 1) = 1", "tick(1, 1) = 0", "point(2, 1, 0) = 1", "tick(1, 1) = 1",
            "point(2, 2, 0) ! -3", "point(1, 1, 0) = 1", "tick(1, 9) = 2", "log(0) = E1@2 P2:1@3 E2@4");
        says("promise 7: -3 as for alarm(): the other counter is this one", "counter(10, 1) = 1", "counter(10, 1) = 2",
            "table(1, 5) = 1", "table(2, 5) = 2", "point(1, 0, 1) ! -3", "point(2, 0, 2) ! -3", "point(1, 0, 2) = 1");
        says("promise 7: -3 as for alarm(): STEPS of it lead to STEPS of this one", "counter(10, 1) = 1",
            "counter(10, 1) = 2", "counter(10, 1) = 3", "table(1, 5) = 1", "table(2, 5) = 2", "table(3, 5) = 3",
            "alarm(2, 1, 3) = 1", "point(1, 0, 2) = 1", "point(3, 0, 1) ! -3", "point(3, 0, 2) ! -3",
            "point(2, 0, 1) ! -3", "point(2, 0, 3) = 1", "point(1, 1, 3) = 2", "alarm(3, 1, 1) ! -3");
        says("promise 7: what was refused leads to no STEPS", "counter(10, 1) = 1", "counter(10, 1) = 2",
            "counter(10, 1) = 3", "table(1, 5) = 1", "point(1, 0, 0) = 1", "point(1, 0, 2) ! -3", "point(1, 6, 2) ! -2",
            "start(1, 1) = 1", "point(1, 1, 3) ! -3", "alarm(2, 1, 1) = 1", "alarm(3, 1, 1) = 2");
    }

    private static void pointRoom() {
        says("promise 7: how many POINTS the table has; -4 it has 20", Rows.of(
            List.of("counter(100, 1) = 1", "table(1, 20) = 1", "table(1, 20) = 2"),
            Rows.each(1, 20, "point(1, #, 0) = #"),
            List.of("point(1, 0, 0) ! -4", "point(2, 0, 0) = 1", "start(1, 1) = 1", "tick(1, 100) = 21",
                "expired(0, 2) = 1", "expired(19, 2) = 20", "expired(20, 0) = 2", "point(1, 0, 0) ! -4")));
        says("promise 7: -4 leads to no STEPS, and cancels nothing", Rows.of(
            List.of("counter(100, 1) = 1", "counter(100, 1) = 2", "alarm(1, 0, 0) = 1", "table(1, 20) = 1"),
            Rows.each(1, 20, "point(1, #, 0) = #"),
            List.of("point(1, 0, 2) ! -4", "point(1, 0, -1) ! -4", "alarm(2, 1, 1) = 2", "set(1, 50, 0, false) = 1",
                "start(1, 1) = 1", "tick(1, 21) = 21", "cancel(1) = 1")));
    }

    private static void start() {
        says("promise 8: 3 at is not 1 .. 1000000", "counter(10, 1) = 1", "table(1, 2) = 1", "start(1, 0) ! 3",
            "start(1, -1) ! 3", "start(1, 1000001) ! 3", "start(1, least) ! 3", "start(1, most) ! 3",
            "start(1, 4294967297) ! 3", "sync(1, 0) ! -3", "tick(1, 100) = 0", "start(1, 1) = 1", "tick(1, 3) = 1",
            "start(1, 1000000) = 1", "tick(1, 5000) = 0");
        says("promise 8: a table begins at STEPS later, the most", Rows.of(
            List.of("counter(10, 1) = 1", "table(1, 2) = 1", "point(1, 0, 0) = 1", "tick(1, 3) = 0",
                "start(1, 1000000) = 1"),
            Rows.each(1, 199, "tick(1, 5000) = 0"),
            List.of("tick(1, 4999) = 0", "tick(1, 1) = 1", "log(0) = P1:0@3")));
        says("promise 8: 2 it runs already (or is to begin)", "counter(10, 1) = 1", "table(1, 1) = 1", "table(1, 1) = 2",
            "next(1, 2) = 1", "start(1, 3) = 1", "start(1, 1) ! 2", "tick(1, 2) = 0", "start(1, 1) ! 2", "tick(1, 1) = 0",
            "start(1, 1) ! 2", "tick(1, 1) = 1", "start(2, 1) ! 2", "start(1, 9) = 1", "tick(1, 1) = 1",
            "start(2, 9) = 1", "log(0) = E1@4 E2@5");
        says("promise 8: 2 leaves the beginning and the DEVIATION", "counter(10, 1) = 1", "table(1, 5) = 1",
            "start(1, 2) = 1", "sync(1, 7) = 7", "start(1, 1) ! 2", "deviation(1) = 7", "tick(1, 2) = 0",
            "deviation(1) = 5", "start(1, 1) ! 2", "deviation(1) = 5", "tick(1, 6) = 0", "tick(1, 1) = 1");
        says("promise 8: 2 before 3", "counter(10, 1) = 1", "table(1, 5) = 1", "start(1, 2) = 1", "start(1, 0) ! 2",
            "start(1, 1000001) ! 2", "tick(1, 2) = 0", "start(1, -1) ! 2", "tick(1, 5) = 1");
        says("promise 8: -1 there is none", "start(1, 1) ! -1", "counter(10, 1) = 1", "table(1, 1) = 1", "start(0, 1) ! -1",
            "start(-1, 1) ! -1", "start(2, 1) ! -1", "start(2, 0) ! -1", "start(most, 1) ! -1", "start(least, 1) ! -1",
            "sync(1, 0) ! -3", "start(1, 1) = 1");
    }

    private static void next() {
        says("promise 9: 0: nothing", "counter(10, 1) = 1", "table(1, 1) = 1", "next(1, 0) = 1", "start(1, 1) = 1",
            "tick(1, 9) = 1", "next(1, 1) = 1", "start(1, 1) = 1", "tick(1, 3) = 2", "next(1, 0) = 1", "tick(1, 9) = 1",
            "log(0) = E1@2 E1@1 E1@2 E1@3");
        says("promise 9: told anew, what is told last", "counter(10, 1) = 1", "table(1, 1) = 1", "table(1, 1) = 2",
            "table(1, 1) = 3", "next(1, 2) = 1", "next(1, 3) = 1", "start(1, 1) = 1", "tick(1, 9) = 2",
            "log(0) = E1@2 E3@3");
        says("promise 9: -1 there is no such table", "next(1, 1) ! -1", "counter(10, 1) = 1", "table(1, 1) = 1",
            "next(1, 1) = 1", "next(0, 1) ! -1", "next(0, 0) ! -1", "next(-1, 1) ! -1", "next(2, 1) ! -1", "next(2, 0) ! -1",
            "next(most, 0) ! -1", "next(least, 0) ! -1", "next(1, 2) ! -1", "next(1, -1) ! -1", "next(1, most) ! -1",
            "next(1, least) ! -1", "start(1, 1) = 1", "tick(1, 4) = 3");
        says("promise 9: -3 it is of another counter", "counter(10, 1) = 1", "counter(10, 1) = 2", "table(1, 1) = 1",
            "table(2, 1) = 2", "table(1, 3) = 3", "next(1, 3) = 1", "next(1, 2) ! -3", "next(2, 1) ! -3", "next(2, 2) = 1",
            "start(1, 1) = 1", "tick(1, 5) = 2", "log(0) = E1@2 E3@5");
    }

    private static void sync() {
        says("promise 10: -2 it would be above 1000", "counter(10, 1) = 1", "table(1, 5) = 1", "start(1, 1) = 1",
            "sync(1, 1001) ! -2", "sync(1, most) ! -2", "sync(1, 4294967296) ! -2", "sync(1, 1000) = 1000",
            "sync(1, 1) ! -2", "sync(1, most) ! -2", "deviation(1) = 1000", "sync(1, 0) = 1000", "sync(1, -1) = 999",
            "sync(1, 2) ! -2", "sync(1, 1) = 1000");
        says("promise 10: -2 it would be below -1000", "counter(10, 1) = 1", "table(1, 5) = 1", "start(1, 1) = 1",
            "sync(1, -1001) ! -2", "sync(1, least) ! -2", "sync(1, -4294967296) ! -2", "sync(1, -1000) = -1000",
            "sync(1, -1) ! -2", "sync(1, least) ! -2", "deviation(1) = -1000", "sync(1, 0) = -1000", "sync(1, 1) = -999",
            "sync(1, -2) ! -2", "sync(1, -1) = -1000");
        says("promise 10: -2, from end to end", "counter(10, 1) = 1", "table(1, 5) = 1", "start(1, 1) = 1",
            "sync(1, -1000) = -1000", "sync(1, 2001) ! -2", "sync(1, 2000) = 1000", "sync(1, -2001) ! -2",
            "sync(1, least) ! -2", "sync(1, -2000) = -1000", "sync(1, most) ! -2");
        says("promise 10: -2 by the DEVIATION that is left", "counter(10, 1) = 1", "table(1, 5) = 1", "start(1, 1) = 1",
            "sync(1, 1000) = 1000", "tick(1, 1) = 0", "sync(1, 3) ! -2", "sync(1, 2) = 1000", "sync(1, -2000) = -1000",
            "sync(1, -1) ! -2", "tick(1, 6) = 0", "tick(1, 1) = 1");
        says("promise 10: begun or not", "counter(10, 1) = 1", "table(1, 5) = 1", "start(1, 1) = 1", "sync(1, 4) = 4",
            "sync(1, 5) = 9", "tick(1, 1) = 0", "sync(1, -10) = -3", "tick(1, 6) = 0", "sync(1, 1) = -2",
            "tick(1, 1) = 1");
        says("promise 10: -3 it does not run", "counter(10, 1) = 1", "table(1, 1) = 1", "sync(1, 0) ! -3",
            "sync(1, 1000) ! -3", "sync(1, -1000) ! -3", "deviation(1) = 0", "start(1, 1) = 1", "tick(1, 2) = 1",
            "sync(1, 1) ! -3", "deviation(1) = 0");
        says("promise 10: -1 there is no table", "sync(1, 0) ! -1", "counter(10, 1) = 1", "table(1, 1) = 1",
            "start(1, 1) = 1", "sync(0, 1) ! -1", "sync(-1, 1) ! -1", "sync(2, 1) ! -1", "sync(2, most) ! -1",
            "sync(most, 1) ! -1", "sync(least, 1) ! -1", "deviation(1) = 0", "sync(1, 1) = 1");
    }

    private static void tickRanges() {
        says("promise 11: -1 there is none", "tick(1, 1) ! -1", "counter(10, 1) = 1", "alarm(1, 0, 0) = 1",
            "set(1, 1, 0, false) = 1", "tick(0, 1) ! -1", "tick(-1, 1) ! -1", "tick(2, 1) ! -1", "tick(2, most) ! -1",
            "tick(most, 1) ! -1", "tick(least, 1) ! -1", "tick(1, 1) = 1");
        says("promise 11: -2 n is not 0 .. 100000", "counter(1000000, 1000) = 1", "alarm(1, 0, 0) = 1",
            "set(1, 100, 0, false) = 1", "tick(1, -1) ! -2", "tick(1, least) ! -2", "tick(1, 100001) ! -2",
            "tick(1, 4294967296) ! -2", "tick(1, most) ! -2", "tick(1, 0) = 0", "tick(1, 100000) = 1",
            "log(0) = A1@100");
        says("promise 11: -2 n is not 0 .. 100000, with 20 ticks a STEP both limits at once", "counter(1000000, 20) = 1",
            "alarm(1, 0, 0) = 1", "set(1, 5000, 0, false) = 1", "tick(1, 100001) ! -2", "tick(1, 100000) = 1",
            "tick(1, 19) = 0", "tick(1, 100000) = 0", "set(1, 1, 0, false) = 1", "tick(1, 1) = 1");
        says("promise 11: -2 would be more than 5000 STEPS", "counter(1000000, 1) = 1", "alarm(1, 0, 0) = 1",
            "set(1, 5000, 0, false) = 1", "tick(1, 5001) ! -2", "tick(1, 100000) ! -2", "tick(1, 5000) = 1",
            "tick(1, 5001) ! -2", "log(0) = A1@5000");
        says("promise 11: -2 would be more than 5000 STEPS, with ticks left over", "counter(1000000, 19) = 1",
            "alarm(1, 0, 0) = 1", "set(1, 5001, 0, false) = 1", "tick(1, 95019) ! -2", "tick(1, 95018) = 0",
            "tick(1, 1) = 1", "log(0) = A1@5001");
        says("promise 11: -2 would be more than 5000 STEPS, with ticks that were kept", "counter(1000000, 19) = 1",
            "alarm(1, 0, 0) = 1", "set(1, 5000, 0, false) = 1", "tick(1, 18) = 0", "tick(1, 95001) ! -2",
            "tick(1, 95000) = 1", "set(1, 1, 0, false) = 1", "tick(1, 0) = 0", "tick(1, 1) = 1");
        says("promise 11: STEPS of ACTs are not among the 5000", "counter(10, 1) = 1", "counter(10, 1) = 2",
            "alarm(1, 1, 2) = 1", "set(1, 1, 2, false) = 1", "tick(1, 5000) = 2500", "tick(2, 5000) = 0");
    }

    private static void tickCounts() {
        says("promise 11: how many EXPIRED: none", "counter(10, 1) = 1", "tick(1, 0) = 0", "tick(1, 5000) = 0");
        says("promise 11: how many EXPIRED, in this call alone", "counter(10, 1) = 1", "alarm(1, 0, 0) = 1",
            "set(1, 1, 2, false) = 1", "tick(1, 3) = 2", "tick(1, 0) = 0", "tick(1, 1) = 0", "tick(1, 1) = 1",
            "expired(-1, 0) = 3");
        says("promise 11: how many EXPIRED, also beyond the 3000 that are noted", "counter(10, 1) = 1",
            "alarm(1, 0, 0) = 1", "alarm(1, 0, 0) = 2", "set(1, 1, 2, false) = 1", "set(2, 1, 2, false) = 1",
            "tick(1, 5000) = 5000", "tick(1, 1) = 2", "tick(1, 1) = 0");
        says("promise 11: POINTS and ENDs count", "counter(10, 1) = 1", "table(1, 1) = 1", "point(1, 0, 0) = 1",
            "point(1, 1, 0) = 2", "start(1, 1) = 1", "tick(1, 2) = 3");
        says("promise 11: also of other counters", "counter(10, 1) = 1", "counter(10, 1) = 2", "alarm(1, 1, 2) = 1",
            "set(1, 1, 2, false) = 1", "alarm(2, 0, 0) = 2", "set(2, 1, 0, false) = 1", "table(2, 1) = 1",
            "point(1, 0, 0) = 1", "start(1, 1) = 1", "tick(1, 1) = 3", "tick(1, 2) = 2");
        says("promise 11: also of other counters, all twenty by alarms", Rows.of(
            Rows.each(1, 20, "counter(10, 3) = #"),
            Rows.each(1, 19, "alarm(#, 1, ^) = #"),
            List.of("alarm(20, 0, 0) = 20"),
            Rows.each(1, 20, "set(#, 1, 0, false) = 1"),
            List.of("tick(1, 2) = 0", "tick(1, 1) = 20", "expired(0, 1) = 1", "expired(18, 1) = 19",
                "expired(19, 1) = 20", "expired(19, 3) = 1")));
        says("promise 11: also of other counters, all twenty by POINTS", Rows.of(
            Rows.each(1, 20, "counter(10, 3) = #"),
            Rows.each(1, 20, "table(#, 1) = #"),
            Rows.each(1, 19, "point(#, 0, ^) = 1"),
            List.of("point(20, 0, 0) = 1"),
            Rows.each(1, 20, "start(#, 1) = 1"),
            List.of("tick(1, 2) = 0", "tick(1, 1) = 20", "expired(0, 1) = 1", "expired(18, 1) = 19",
                "expired(19, 1) = 20", "expired(19, 3) = 1", "tick(1, 3) = 1", "expired(20, 0) = 2")));
    }

    private static void expiredKinds() {
        List<String> three = List.of("counter(10, 1) = 1", "alarm(1, 0, 0) = 1", "alarm(1, 0, 0) = 2", "table(1, 5) = 1",
            "table(1, 4) = 2", "point(2, 3, 0) = 1", "set(2, 4, 0, false) = 1", "start(2, 2) = 1", "tick(1, 6) = 3");
        says("promise 12: what = 0 its kind", Rows.of(three,
            List.of("expired(0, 0) = 0", "expired(1, 0) = 1", "expired(2, 0) = 2")));
        says("promise 12: what = 1 its alarm or table", Rows.of(three,
            List.of("expired(0, 1) = 2", "expired(1, 1) = 2", "expired(2, 1) = 2")));
        says("promise 12: what = 2 a POINT's OFFSET (0 for others)", Rows.of(three,
            List.of("expired(0, 2) = 0", "expired(1, 2) = 3", "expired(2, 2) = 0")));
        says("promise 12: what = 3 the VALUE of its counter", Rows.of(three,
            List.of("tick(1, 9) = 0", "expired(0, 3) = 4", "expired(1, 3) = 5", "expired(2, 3) = 6")));
        says("promise 12: the i-th that EXPIRED (from 0); -1 there is none", Rows.of(three,
            List.of("expired(0, 1) = 2", "expired(2, 1) = 2", "expired(3, 1) ! -1", "expired(3, 0) ! -1",
                "expired(-2, 0) ! -1", "expired(most, 0) ! -1", "expired(least, 0) ! -1", "expired(2999, 0) ! -1",
                "expired(3000, 0) ! -1")));
        says("promise 12: i = -1 with what = 0: how many there were", Rows.of(three,
            List.of("expired(-1, 0) = 3", "tick(1, 9) = 0", "expired(-1, 0) = 3", "start(1, 1) = 1", "tick(1, 6) = 1",
                "expired(-1, 0) = 4")));
        says("promise 12: i = -1 with another what: -1 there is none", Rows.of(three,
            List.of("expired(-1, 1) ! -1", "expired(-1, 2) ! -1", "expired(-1, 3) ! -1", "expired(-1, 4) ! -1",
                "expired(-1, -1) ! -1", "expired(-1, 0) = 3")));
        says("promise 12: -2 no such what", Rows.of(three,
            List.of("expired(0, -1) ! -2", "expired(0, 4) ! -2", "expired(2, -1) ! -2", "expired(2, 4) ! -2",
                "expired(0, most) ! -2", "expired(0, least) ! -2", "expired(0, 0) = 0", "expired(0, 3) = 4")));
        says("promise 12: -1 before -2", Rows.of(three,
            List.of("expired(3, 4) ! -1", "expired(3, -1) ! -1", "expired(-2, 4) ! -1", "expired(-1, 4) ! -1")));
    }

    private static void expiredExtremes() {
        says("promise 12: the smallest and the largest VALUE", "counter(3, 1) = 1", "alarm(1, 0, 0) = 1",
            "alarm(1, 0, 0) = 2", "set(1, 0, 0, true) = 1", "set(2, 2, 0, true) = 1", "tick(1, 3) = 2",
            "expired(0, 3) = 2", "expired(1, 3) = 0");
        says("promise 12: the VALUE of its counter, not of the one that was ticked", "counter(10, 1) = 1",
            "counter(10, 1) = 2", "alarm(1, 1, 2) = 1", "alarm(2, 0, 0) = 2", "tick(2, 5) = 0", "set(1, 1, 0, false) = 1",
            "set(2, 1, 0, false) = 1", "tick(1, 1) = 2", "expired(0, 3) = 1", "expired(1, 3) = 6");
        says("promise 12: the smallest and the largest alarm", Rows.of(
            List.of("counter(10, 1) = 1"),
            Rows.each(1, 100, "alarm(1, 0, 0) = #"),
            Rows.each(1, 100, "set(#, 1, 0, false) = 1"),
            List.of("tick(1, 1) = 100"),
            Rows.each(0, 99, "expired(#, 1) = ^"),
            List.of("expired(100, 1) ! -1", "expired(-1, 0) = 100")));
        says("promise 12: the smallest and the largest table", Rows.of(
            List.of("counter(10, 1) = 1"),
            Rows.each(1, 20, "table(1, 1) = #"),
            Rows.each(1, 20, "start(#, 1) = 1"),
            List.of("tick(1, 2) = 20"),
            Rows.each(0, 19, "expired(#, 1) = ^"),
            List.of("expired(20, 1) ! -1")));
        says("promise 12: the smallest and the largest OFFSET", Rows.of(
            List.of("counter(10, 1) = 1", "table(1, 1000000) = 1", "point(1, 0, 0) = 1", "point(1, 999999, 0) = 2",
                "point(1, 1000000, 0) = 3", "start(1, 1) = 1", "tick(1, 5000) = 1"),
            Rows.each(1, 198, "tick(1, 5000) = 0"),
            List.of("tick(1, 4999) = 0", "tick(1, 1) = 1", "tick(1, 1) = 2", "expired(0, 2) = 0",
                "expired(1, 2) = 999999", "expired(2, 2) = 1000000", "expired(3, 2) = 0", "expired(3, 0) = 2")));
        says("promise 12: how many there were, also beyond the 3000 that are noted", "counter(10, 1) = 1",
            "alarm(1, 0, 0) = 1", "set(1, 1, 2, false) = 1", "tick(1, 5000) = 2500", "tick(1, 5000) = 2500",
            "expired(-1, 0) = 5000", "expired(2999, 0) = 0", "expired(3000, 0) ! -1", "expired(3000, 4) ! -1",
            "expired(4999, 0) ! -1");
    }

    private static void deviation() {
        says("promise 13: 0 if there is none", "deviation(1) = 0", "deviation(0) = 0", "counter(10, 1) = 1",
            "table(1, 5) = 1", "start(1, 1) = 1", "sync(1, 7) = 7", "deviation(0) = 0", "deviation(-1) = 0",
            "deviation(2) = 0", "deviation(21) = 0", "deviation(most) = 0", "deviation(least) = 0", "deviation(1) = 7");
        says("promise 13: a table's DEVIATION, the smallest and the largest", "counter(10, 1) = 1", "table(1, 5) = 1",
            "table(1, 5) = 2", "start(1, 1) = 1", "start(2, 1) = 1", "sync(1, -1000) = -1000", "sync(2, 1000) = 1000",
            "deviation(1) = -1000", "deviation(2) = 1000");
        says("promise 13: a table's DEVIATION, not started yet", "counter(10, 1) = 1", "table(1, 5) = 1",
            "deviation(1) = 0", "sync(1, 5) ! -3", "deviation(1) = 0", "start(1, 1) = 1", "deviation(1) = 0");
        says("promise 13: a table's DEVIATION, of the twentieth", Rows.of(
            List.of("counter(10, 1) = 1"),
            Rows.each(1, 20, "table(1, 5) = #"),
            Rows.each(1, 20, "start(#, 1) = 1"),
            Rows.each(1, 20, "sync(#, #) = #"),
            Rows.each(1, 20, "deviation(#) = #"),
            List.of("deviation(21) = 0")));
        says("promise 13: a table's DEVIATION stays behind its END, until it is started", "counter(100, 1) = 1",
            "table(1, 1) = 1", "start(1, 1) = 1", "sync(1, 5) = 5", "tick(1, 4) = 1", "deviation(1) = 3",
            "tick(1, 50) = 0", "deviation(1) = 3", "start(1, 1) = 1", "deviation(1) = 0");
    }
}
