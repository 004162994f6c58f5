import java.util.List;

/** One test for each sentence of the document's 'What it is' and 'Terms' that names a boundary case. */
final class TermsBoundaryTest {
    private static final Due due = new Due();

    public static void main(String[] args) {
        calls();
        counters();
        valueWrapsAround();
        ticksAreKept();
        alarms();
        alarmCycles();
        tables();
        points();
        goingOn();
        drawnWithinTwo();
        drawnNotBelowOneStep();
        notDrawnWithoutDistance();
        ends();
        deviationAtABeginning();
        orderWithinAStep();
        cancelledBeforeItsTurn();
        stepsMadeByActs();
        stepsMadeByActsOfActs();
        expiredNoted();
        firstRefusalThatFits();
        due.end();
    }

    private static void says(String sentence, String... rows) {
        Rows.check(due, sentence, List.of(rows));
    }

    private static void says(String sentence, List<String> rows) {
        Rows.check(due, sentence, rows);
    }

    private static void calls() {
        says("What it is: an object is used for at most 512 calls (the 512th is still as promised)", Rows.of(
            List.of("counter(5, 1) = 1", "alarm(1, 0, 0) = 1", "set(1, 1, 2, false) = 1"),
            Rows.each(1, 508, "tick(1, 2) = 1"),
            List.of("expired(-1, 0) = 508")));
    }

    private static void counters() {
        says("Terms: COUNTERS are numbered from 1 on", "tick(1, 1) ! -1", "counter(10, 1) = 1", "tick(0, 1) ! -1",
            "tick(1, 1) = 0", "tick(2, 1) ! -1", "counter(10, 1) = 2", "tick(2, 1) = 0");
        says("Terms: COUNTERS, at most 20", Rows.of(
            Rows.each(1, 20, "counter(10, 1) = #"),
            List.of("counter(10, 1) ! -4", "tick(20, 1) = 0", "tick(21, 1) ! -1")));
        says("Terms: a BASE (1 .. 1000000000), the smallest", "counter(0, 1) ! throws", "counter(1, 1) = 1",
            "alarm(1, 0, 0) = 1", "set(1, 1, 0, true) ! 3", "set(1, 0, 0, true) = 1", "tick(1, 1) = 1", "log(0) = A1@0");
        says("Terms: a BASE (1 .. 1000000000), the largest", "counter(1000000001, 1) ! -2", "counter(1000000000, 1) = 1",
            "alarm(1, 0, 0) = 1", "set(1, 1000000000, 0, true) ! 3", "set(1, 999999999, 0, true) = 1",
            "tick(1, 5000) = 0", "cancel(1) = 1", "set(1, 5001, 0, true) = 1", "tick(1, 1) = 1", "log(0) = A1@5001");
        says("Terms: so many TICKS (1 .. 1000) are a STEP, the fewest", "counter(10, 0) ! -2", "counter(10, 1) = 1",
            "alarm(1, 0, 0) = 1", "set(1, 2, 0, false) = 1", "tick(1, 1) = 0", "tick(1, 1) = 1");
        says("Terms: so many TICKS (1 .. 1000) are a STEP, the most", "counter(10, 1001) ! -2", "counter(10, 1000) = 1",
            "alarm(1, 0, 0) = 1", "set(1, 2, 0, false) = 1", "tick(1, 1999) = 0", "tick(1, 1) = 1");
    }

    private static void valueWrapsAround() {
        says("Terms: the VALUE is at first 0, so that it comes to 0 behind a whole round", "counter(3, 1) = 1",
            "alarm(1, 0, 0) = 1", "set(1, 0, 0, true) = 1", "tick(1, 2) = 0", "tick(1, 1) = 1", "log(0) = A1@0");
        says("Terms: the VALUE is at first 0, so that it comes to 1 with the first STEP", "counter(3, 1) = 1",
            "alarm(1, 0, 0) = 1", "set(1, 1, 0, true) = 1", "tick(1, 1) = 1", "log(0) = A1@1");
        says("Terms: the VALUE is 0 .. BASE - 1, with BASE 1", "counter(1, 1) = 1", "table(1, 1) = 1", "next(1, 1) = 1",
            "start(1, 1) = 1", "tick(1, 4) = 3", "log(0) = E1@0 E1@0 E1@0");
        says("Terms: the VALUE is 0 .. BASE - 1, with BASE 2", "counter(2, 1) = 1", "table(1, 1) = 1", "next(1, 1) = 1",
            "start(1, 1) = 1", "tick(1, 5) = 4", "log(0) = E1@0 E1@1 E1@0 E1@1");
        says("Terms: a STEP makes the VALUE one more, modulo BASE", "counter(5000, 1) = 1", "alarm(1, 0, 0) = 1",
            "alarm(1, 0, 0) = 2", "set(1, 4999, 0, true) = 1", "set(2, 0, 0, true) = 1", "tick(1, 4998) = 0",
            "tick(1, 1) = 1", "tick(1, 1) = 1", "log(0) = A1@4999 A2@0", "set(1, 1, 0, true) = 1", "tick(1, 1) = 1",
            "log(2) = A1@1");
        says("Terms: modulo BASE, many rounds in one call", "counter(3, 1) = 1", "alarm(1, 0, 0) = 1",
            "set(1, 0, 3, true) = 1", "tick(1, 5000) = 1666", "expired(1665, 3) = 0", "tick(1, 1) = 1",
            "expired(1666, 3) = 0");
        says("Terms: modulo BASE, also for a STEP made by an ACT", "counter(10, 1) = 1", "counter(2, 1) = 2",
            "alarm(1, 1, 2) = 1", "alarm(2, 0, 0) = 2", "set(1, 1, 2, false) = 1", "set(2, 0, 2, true) = 1",
            "tick(1, 7) = 6", "log(0) = A1@1 A1@3 A2@0 A1@5 A1@7 A2@0");
        says("Terms: a table goes on while the VALUE wraps around", "counter(3, 1) = 1", "table(1, 8) = 1",
            "point(1, 4, 0) = 1", "start(1, 2) = 1", "tick(1, 10) = 2", "log(0) = P1:4@0 E1@1");
    }

    private static void ticksAreKept() {
        says("Terms: ticks that do not make a STEP are kept", "counter(10, 1000) = 1", "alarm(1, 0, 0) = 1",
            "set(1, 1, 0, false) = 1", "tick(1, 999) = 0", "tick(1, 0) = 0", "tick(1, 1) = 1", "log(0) = A1@1");
        says("Terms: ticks are kept behind STEPS, too", "counter(10, 3) = 1", "alarm(1, 0, 0) = 1",
            "set(1, 3, 0, false) = 1", "tick(1, 5) = 0", "tick(1, 2) = 0", "tick(1, 1) = 0", "tick(1, 1) = 1");
        says("Terms: ticks are kept for each counter by itself", "counter(10, 2) = 1", "counter(10, 2) = 2",
            "alarm(1, 0, 0) = 1", "alarm(2, 0, 0) = 2", "set(1, 1, 0, false) = 1", "set(2, 1, 0, false) = 1",
            "tick(1, 1) = 0", "tick(2, 1) = 0", "tick(2, 1) = 1", "tick(1, 1) = 1", "log(0) = A2@1 A1@1");
        says("Terms: a STEP made by an ACT takes none of the ticks that are kept", "counter(10, 1) = 1",
            "counter(10, 3) = 2", "alarm(1, 1, 2) = 1", "alarm(2, 0, 0) = 2", "set(1, 1, 0, false) = 1",
            "set(2, 2, 0, false) = 1", "tick(2, 2) = 0", "tick(1, 1) = 1", "tick(2, 1) = 1", "log(0) = A1@1 A2@2");
        says("Terms: ticks of a refused call are not kept", "counter(10, 2) = 1", "alarm(1, 0, 0) = 1",
            "set(1, 1, 0, false) = 1", "tick(1, 10003) ! -2", "tick(1, 100001) ! -2", "tick(1, -1) ! -2",
            "tick(1, 1) = 0", "tick(1, 1) = 1");
    }

    private static void alarms() {
        says("Terms: ALARMS are numbered from 1 on", "counter(10, 1) = 1", "cancel(1) ! -1", "alarm(1, 0, 0) = 1",
            "cancel(0) ! -1", "cancel(1) ! 5", "cancel(2) ! -1", "alarm(1, 0, 0) = 2", "cancel(2) ! 5");
        says("Terms: ALARMS, at most 100", Rows.of(
            List.of("counter(10, 1) = 1"),
            Rows.each(1, 100, "alarm(1, 0, 0) = #"),
            List.of("alarm(1, 0, 0) ! -4", "set(100, 1, 0, false) = 1", "set(101, 1, 0, false) ! -1", "tick(1, 1) = 1",
                "log(0) = A100@1")));
        says("Terms: ACT 0 nothing", "counter(10, 1) = 1", "alarm(1, 0, 0) = 1", "alarm(1, 0, 0) = 2",
            "set(1, 1, 0, false) = 1", "set(2, 2, 0, false) = 1", "tick(1, 1) = 1", "cancel(2) = 1");
        says("Terms: ACT 1 a STEP, one and no more", "counter(10, 1) = 1", "counter(10, 1) = 2", "alarm(1, 1, 2) = 1",
            "alarm(2, 0, 0) = 2", "set(1, 1, 0, false) = 1", "set(2, 2, 0, false) = 1", "tick(1, 9) = 1",
            "tick(2, 1) = 1");
        says("Terms: ACT 2 cancelling an alarm", "counter(10, 1) = 1", "alarm(1, 0, 0) = 1", "alarm(1, 2, 1) = 2",
            "set(1, 3, 0, false) = 1", "set(2, 2, 0, false) = 1", "tick(1, 9) = 1", "log(0) = A2@2", "cancel(1) ! 5");
        says("Terms: ACT 2, nothing if it is not SET", "counter(10, 1) = 1", "alarm(1, 0, 0) = 1", "alarm(1, 2, 1) = 2",
            "set(2, 1, 0, false) = 1", "tick(1, 1) = 1", "cancel(1) ! 5", "set(1, 1, 0, false) = 1", "tick(1, 1) = 1",
            "log(0) = A2@1 A1@2");
        says("Terms: an alarm is DUE so many STEPS later, the fewest", "counter(10, 1) = 1", "alarm(1, 0, 0) = 1",
            "set(1, 1, 0, false) = 1", "tick(1, 0) = 0", "tick(1, 1) = 1");
        says("Terms: an alarm is DUE so many STEPS later, the most", "counter(10, 1) = 1", "alarm(1, 0, 0) = 1",
            "tick(1, 4) = 0", "set(1, 9, 0, false) = 1", "tick(1, 8) = 0", "tick(1, 1) = 1", "log(0) = A1@3");
    }

    private static void alarmCycles() {
        says("Terms: DUE again CYCLE STEPS later, the shortest", "counter(10, 1) = 1", "alarm(1, 0, 0) = 1",
            "set(1, 1, 2, false) = 1", "tick(1, 6) = 3", "log(0) = A1@1 A1@3 A1@5", "cancel(1) = 1");
        says("Terms: DUE again CYCLE STEPS later, the longest", "counter(10, 1) = 1", "alarm(1, 0, 0) = 1",
            "set(1, 9, 10, false) = 1", "tick(1, 9) = 1", "tick(1, 9) = 0", "tick(1, 1) = 1", "log(0) = A1@9 A1@9");
        says("Terms: with CYCLE 0, no more SET", "counter(10, 1) = 1", "alarm(1, 0, 0) = 1", "set(1, 1, 0, false) = 1",
            "tick(1, 1) = 1", "cancel(1) ! 5", "tick(1, 100) = 0", "set(1, 1, 0, false) = 1", "tick(1, 1) = 1");
        says("Terms: an alarm that cancels itself by way of another counter is DUE again, and then SET no more",
            "counter(10, 1) = 1", "counter(10, 1) = 2", "alarm(1, 1, 2) = 1", "alarm(2, 2, 1) = 2",
            "set(1, 1, 2, false) = 1", "set(2, 1, 0, false) = 1", "tick(1, 9) = 2", "log(0) = A1@1 A2@1", "cancel(1) ! 5");
    }

    private static void tables() {
        says("Terms: TABLES are numbered from 1 on", "counter(10, 1) = 1", "start(1, 1) ! -1", "table(1, 2) = 1",
            "start(0, 1) ! -1", "start(2, 1) ! -1", "start(1, 1) = 1", "table(1, 2) = 2", "start(2, 1) = 1",
            "tick(1, 3) = 2");
        says("Terms: TABLES, at most 20", Rows.of(
            List.of("counter(10, 1) = 1"),
            Rows.each(1, 20, "table(1, 1) = #"),
            List.of("table(1, 1) ! -4", "start(20, 1) = 1", "start(21, 1) ! -1", "tick(1, 2) = 1", "log(0) = E20@2")));
        says("Terms: a table begins so many STEPS later, the fewest", "counter(10, 1) = 1", "table(1, 5) = 1",
            "point(1, 0, 0) = 1", "start(1, 1) = 1", "tick(1, 0) = 0", "tick(1, 1) = 1", "log(0) = P1:0@1");
        says("Terms: a table begins so many STEPS later, the most", Rows.of(
            List.of("counter(7, 1) = 1", "table(1, 5) = 1", "point(1, 0, 0) = 1", "start(1, 1000000) = 1"),
            Rows.each(1, 199, "tick(1, 5000) = 0"),
            List.of("tick(1, 4999) = 0", "tick(1, 1) = 1", "log(0) = P1:0@1")));
        says("Terms: at LENGTH is its END, the shortest", "counter(10, 1) = 1", "table(1, 1) = 1", "start(1, 1) = 1",
            "tick(1, 1) = 0", "tick(1, 1) = 1", "log(0) = E1@2");
        says("Terms: at LENGTH is its END, the longest", Rows.of(
            List.of("counter(7, 1) = 1", "table(1, 1000000) = 1", "point(1, 1000000, 0) = 1", "start(1, 1) = 1"),
            Rows.each(1, 200, "tick(1, 5000) = 0"),
            List.of("tick(1, 1) = 2", "log(0) = P1:1000000@2 E1@2")));
    }

    private static void points() {
        says("Terms: POINTS, each at an OFFSET (0 .. LENGTH), the smallest", "counter(10, 1) = 1", "table(1, 3) = 1",
            "point(1, -1, 0) ! -2", "point(1, 0, 0) = 1", "start(1, 2) = 1", "tick(1, 9) = 2", "log(0) = P1:0@2 E1@5");
        says("Terms: POINTS, each at an OFFSET (0 .. LENGTH), the largest", "counter(10, 1) = 1", "table(1, 3) = 1",
            "point(1, 4, 0) ! -2", "point(1, 3, 0) = 1", "start(1, 2) = 1", "tick(1, 9) = 2", "log(0) = P1:3@5 E1@5");
        says("Terms: at most one at each OFFSET", "counter(10, 1) = 1", "counter(10, 1) = 2", "table(1, 3) = 1",
            "point(1, 0, 2) = 1", "point(1, 2, 0) = 2", "point(1, 3, 0) = 3", "point(1, 0, 0) ! -3",
            "point(1, 2, 2) ! -3", "point(1, 3, 2) ! -3", "alarm(2, 0, 0) = 1", "set(1, 2, 0, false) = 1",
            "start(1, 1) = 1", "tick(1, 9) = 4", "log(0) = P1:0@1 P1:2@3 P1:3@4 E1@4", "tick(2, 1) = 1");
        says("Terms: POINTS, none at all", "counter(10, 1) = 1", "table(1, 3) = 1", "start(1, 1) = 1", "tick(1, 3) = 0",
            "tick(1, 1) = 1", "log(0) = E1@4");
        says("Terms: POINTS at every OFFSET, told in any order", "counter(10, 1) = 1", "table(1, 2) = 1",
            "point(1, 1, 0) = 1", "point(1, 2, 0) = 2", "point(1, 0, 0) = 3", "start(1, 1) = 1", "tick(1, 9) = 4",
            "log(0) = P1:0@1 P1:1@2 P1:2@3 E1@3");
        says("Terms: a POINT has an ACT as alarms have", "counter(10, 1) = 1", "counter(10, 1) = 2", "alarm(1, 0, 0) = 1",
            "alarm(2, 0, 0) = 2", "set(1, 9, 0, false) = 1", "set(2, 1, 0, false) = 1", "table(1, 3) = 1",
            "point(1, 0, 0) = 1", "point(1, 1, 2) = 2", "point(1, 2, -1) = 3", "point(1, 3, -1) = 4", "start(1, 1) = 1",
            "tick(1, 2) = 3", "cancel(1) = 1", "set(1, 9, 0, false) = 1", "tick(1, 1) = 1", "cancel(1) ! 5",
            "tick(1, 1) = 2", "log(0) = P1:0@1 P1:1@2 A2@1 P1:2@3 P1:3@4 E1@4");
    }

    private static void goingOn() {
        says("Terms: at the beginning one at 0 counts, in the same STEP", "counter(10, 1) = 1", "table(1, 3) = 1",
            "point(1, 0, 0) = 1", "point(1, 1, 0) = 2", "start(1, 1) = 1", "tick(1, 1) = 1", "tick(1, 1) = 1",
            "log(0) = P1:0@1 P1:1@2");
        says("Terms: from its beginning as if that were at OFFSET 0", "counter(10, 1) = 1", "table(1, 3) = 1",
            "point(1, 1, 0) = 1", "start(1, 1) = 1", "tick(1, 1) = 0", "tick(1, 1) = 1", "log(0) = P1:1@2");
        says("Terms: behind a POINT at LENGTH the END is in the same STEP", "counter(10, 1) = 1", "table(1, 1) = 1",
            "point(1, 1, 0) = 1", "start(1, 1) = 1", "tick(1, 1) = 0", "tick(1, 1) = 2", "log(0) = P1:1@2 E1@2");
        says("Terms: a POINT's ACT is done when it expires, before the END of the same STEP", "counter(10, 1) = 1",
            "counter(10, 1) = 2", "alarm(2, 0, 0) = 1", "set(1, 1, 0, false) = 1", "table(1, 1) = 1",
            "point(1, 1, 2) = 1", "start(1, 1) = 1", "tick(1, 2) = 3", "log(0) = P1:1@2 A1@1 E1@2");
        says("Terms: a POINT's ACT at LENGTH is done before NEXT begins", "counter(10, 1) = 1", "counter(10, 1) = 2",
            "alarm(2, 0, 0) = 1", "set(1, 1, 0, false) = 1", "table(1, 1) = 1", "point(1, 0, 0) = 1",
            "point(1, 1, 2) = 2", "next(1, 1) = 1", "start(1, 1) = 1", "tick(1, 2) = 5",
            "log(0) = P1:0@1 P1:1@2 A1@1 E1@2 P1:0@2");
    }

    /** A table of LENGTH length with this DEVIATION at its beginning: how it is drawn, and what is left. */
    private static void drawn(String sentence, int length, int deviation, int draw) {
        says(sentence + ", d " + length + ", DEVIATION " + deviation, "counter(100, 1) = 1", "table(1, " + length + ") = 1",
            "start(1, 1) = 1", "sync(1, " + deviation + ") = " + deviation, "tick(1, 1) = 0",
            "deviation(1) = " + (deviation - draw), "tick(1, " + (length + draw - 1) + ") = 0", "tick(1, 1) = 1",
            "log(0) = E1@" + (1 + length + draw), "deviation(1) = " + (deviation - draw));
    }

    private static void drawnWithinTwo() {
        String sentence = "Terms: c is the table's DEVIATION, but within -2 and 2";
        drawn(sentence, 10, 0, 0);
        drawn(sentence, 10, 1, 1);
        drawn(sentence, 10, 2, 2);
        drawn(sentence, 10, 3, 2);
        drawn(sentence, 10, 1000, 2);
        drawn(sentence, 10, -1, -1);
        drawn(sentence, 10, -2, -2);
        drawn(sentence, 10, -3, -2);
        drawn(sentence, 10, -1000, -2);
    }

    private static void drawnNotBelowOneStep() {
        String sentence = "Terms: and not below 1 - d";
        drawn(sentence, 1, -1, 0);
        drawn(sentence, 1, -1000, 0);
        drawn(sentence, 1, 1, 1);
        drawn(sentence, 1, 1000, 2);
        drawn(sentence, 2, -1, -1);
        drawn(sentence, 2, -2, -1);
        drawn(sentence, 3, -2, -2);
        drawn(sentence, 3, -3, -2);
        drawn(sentence, 4, -3, -2);
    }

    private static void notDrawnWithoutDistance() {
        says("Terms: d is 0, in the same STEP, whatever the DEVIATION: at the beginning", "counter(100, 1) = 1",
            "table(1, 10) = 1", "point(1, 0, 0) = 1", "start(1, 1) = 1", "sync(1, 3) = 3", "tick(1, 1) = 1",
            "deviation(1) = 1", "tick(1, 11) = 0", "tick(1, 1) = 1", "log(0) = P1:0@1 E1@13");
        says("Terms: d is 0, in the same STEP, whatever the DEVIATION: before the END", "counter(100, 1) = 1",
            "table(1, 10) = 1", "point(1, 10, 0) = 1", "start(1, 1) = 1", "sync(1, -5) = -5", "tick(1, 9) = 2",
            "deviation(1) = -3", "log(0) = P1:10@9 E1@9");
        says("Terms: the DEVIATION is c less from then on, from POINT to POINT", "counter(100, 1) = 1", "table(1, 9) = 1",
            "point(1, 3, 0) = 1", "point(1, 6, 0) = 2", "start(1, 1) = 1", "sync(1, 5) = 5", "tick(1, 1) = 0",
            "deviation(1) = 3", "tick(1, 5) = 1", "deviation(1) = 1", "tick(1, 5) = 1", "deviation(1) = 0",
            "tick(1, 4) = 1", "log(0) = P1:3@6 P1:6@11 E1@15");
        says("Terms: DEVIATION that comes when the way is known already is for the next way", "counter(100, 1) = 1",
            "table(1, 9) = 1", "point(1, 3, 0) = 1", "start(1, 1) = 1", "tick(1, 1) = 0", "sync(1, -1) = -1",
            "tick(1, 2) = 0", "deviation(1) = -1", "tick(1, 1) = 1", "deviation(1) = 0", "tick(1, 5) = 1",
            "log(0) = P1:3@4 E1@9");
    }

    private static void ends() {
        says("Terms: at the END the table has stopped", "counter(10, 1) = 1", "table(1, 2) = 1", "start(1, 1) = 1",
            "tick(1, 2) = 0", "start(1, 1) ! 2", "tick(1, 1) = 1", "sync(1, 0) ! -3", "tick(1, 50) = 0",
            "start(1, 1) = 1", "tick(1, 3) = 1");
        says("Terms: NEXT begins at once (also this one)", "counter(10, 1) = 1", "table(1, 1) = 1", "point(1, 0, 0) = 1",
            "point(1, 1, 0) = 2", "next(1, 1) = 1", "start(1, 1) = 1", "tick(1, 1) = 1", "tick(1, 1) = 3",
            "tick(1, 1) = 3", "log(0) = P1:0@1 P1:1@2 E1@2 P1:0@2 P1:1@3 E1@3 P1:0@3");
        says("Terms: NEXT begins at once, with a larger number, and only once", "counter(10, 1) = 1", "table(1, 1) = 1",
            "table(1, 2) = 2", "point(2, 0, 0) = 1", "next(1, 2) = 1", "start(1, 1) = 1", "tick(1, 2) = 2",
            "tick(1, 9) = 1", "log(0) = E1@2 P2:0@2 E2@4");
        says("Terms: NEXT begins at once, with a smaller number, whose turn is over", "counter(10, 1) = 1",
            "table(1, 2) = 1", "table(1, 1) = 2", "point(1, 0, 0) = 1", "next(2, 1) = 1", "start(2, 1) = 1",
            "tick(1, 2) = 2", "tick(1, 9) = 1", "log(0) = E2@2 P1:0@2 E1@4");
        says("Terms: NEXT, if it does not run: one that has begun goes its own way", "counter(100, 1) = 1",
            "table(1, 2) = 1", "table(1, 9) = 2", "next(1, 2) = 1", "start(1, 1) = 1", "start(2, 1) = 1",
            "sync(2, 3) = 3", "tick(1, 3) = 1", "deviation(2) = 1", "tick(1, 50) = 1", "log(0) = E1@3 E2@12");
        says("Terms: NEXT, if it does not run: one that is to begin goes its own way", "counter(100, 1) = 1",
            "table(1, 2) = 1", "table(1, 9) = 2", "next(1, 2) = 1", "start(1, 1) = 1", "start(2, 9) = 1",
            "sync(2, 3) = 3", "tick(1, 3) = 1", "deviation(2) = 3", "tick(1, 50) = 1", "log(0) = E1@3 E2@20");
        says("Terms: NEXT, if it does not run: it has stopped in this very STEP", "counter(100, 1) = 1", "table(1, 2) = 1",
            "table(1, 2) = 2", "next(2, 1) = 1", "start(1, 1) = 1", "start(2, 1) = 1", "tick(1, 50) = 3",
            "log(0) = E1@3 E2@3 E1@5");
        says("Terms: NEXT, if it does not run: it stops later in this very STEP", "counter(100, 1) = 1", "table(1, 2) = 1",
            "table(1, 2) = 2", "next(1, 2) = 1", "start(1, 1) = 1", "start(2, 1) = 1", "tick(1, 50) = 2",
            "log(0) = E1@3 E2@3");
        says("Terms: NEXT that was never told", "counter(10, 1) = 1", "table(1, 1) = 1", "table(1, 1) = 2",
            "start(1, 1) = 1", "tick(1, 50) = 1", "log(0) = E1@2");
    }

    private static void deviationAtABeginning() {
        says("Terms: DEVIATION is 0 when a table is started", "counter(100, 1) = 1", "table(1, 1) = 1", "start(1, 1) = 1",
            "sync(1, -1000) = -1000", "tick(1, 2) = 1", "deviation(1) = -1000", "start(1, 1) = 1", "deviation(1) = 0",
            "sync(1, 1000) = 1000");
        says("Terms: when it BEGINS as NEXT, it is kept for the same table", "counter(100, 1) = 1", "table(1, 10) = 1",
            "next(1, 1) = 1", "start(1, 1) = 1", "sync(1, 5) = 5", "tick(1, 13) = 1", "deviation(1) = 1",
            "tick(1, 12) = 1", "deviation(1) = 0", "tick(1, 11) = 1", "tick(1, 10) = 1",
            "log(0) = E1@13 E1@25 E1@36 E1@46");
        says("Terms: when it BEGINS as NEXT, it is 0 for another one", "counter(100, 1) = 1", "table(1, 1) = 1",
            "table(1, 10) = 2", "next(1, 2) = 1", "next(2, 1) = 1", "start(1, 1) = 1", "sync(1, -7) = -7",
            "tick(1, 2) = 1", "deviation(1) = -7", "deviation(2) = 0", "sync(2, 9) = 9", "tick(1, 10) = 1",
            "deviation(1) = 0", "deviation(2) = 9", "tick(1, 1) = 1", "deviation(2) = 0", "tick(1, 10) = 1",
            "log(0) = E1@2 E2@12 E1@13 E2@23");
    }

    private static void orderWithinAStep() {
        says("Terms: the VALUE changes, then all that is DUE in it", "counter(2, 1) = 1", "alarm(1, 0, 0) = 1",
            "set(1, 1, 2, true) = 1", "tick(1, 4) = 2", "log(0) = A1@1 A1@1");
        says("Terms: alarms by their numbers, then tables by theirs", "counter(10, 1) = 1", "table(1, 1) = 1",
            "table(1, 2) = 2", "alarm(1, 0, 0) = 1", "alarm(1, 0, 0) = 2", "start(2, 1) = 1", "start(1, 2) = 1",
            "set(2, 3, 0, true) = 1", "set(1, 3, 0, false) = 1", "tick(1, 2) = 0", "tick(1, 1) = 4",
            "log(0) = A1@3 A2@3 E1@3 E2@3");
        says("Terms: what a STEP of another counter makes happen is done within the ACT", "counter(10, 1) = 1",
            "counter(20, 1) = 2", "counter(30, 1) = 3", "alarm(1, 1, 2) = 1", "alarm(1, 0, 0) = 2", "alarm(2, 1, 3) = 3",
            "alarm(2, 0, 0) = 4", "alarm(3, 0, 0) = 5", "table(2, 1) = 1", "tick(2, 10) = 0", "tick(3, 20) = 0",
            "set(1, 1, 0, false) = 1", "set(2, 1, 0, false) = 1", "set(3, 2, 0, false) = 1", "set(4, 2, 0, false) = 1",
            "set(5, 1, 0, false) = 1", "start(1, 1) = 1", "tick(2, 1) = 0", "tick(1, 1) = 6",
            "log(0) = A1@1 A3@12 A5@21 A4@12 E1@12 A2@1");
        says("Terms: all that a table goes on to in the same STEP, also as NEXT, before the table with the next number",
            "counter(10, 1) = 1", "table(1, 1) = 1", "table(1, 1) = 2", "table(1, 5) = 3", "point(1, 1, 0) = 1",
            "point(3, 0, 0) = 1", "point(2, 1, 0) = 1", "next(1, 3) = 1", "start(2, 1) = 1", "start(1, 1) = 1",
            "tick(1, 2) = 5", "log(0) = P1:1@2 E1@2 P3:0@2 P2:1@2 E2@2");
    }

    private static void cancelledBeforeItsTurn() {
        says("Terms: an alarm that is cancelled before its turn does not expire", "counter(10, 1) = 1",
            "counter(10, 1) = 2", "alarm(1, 1, 2) = 1", "alarm(1, 0, 0) = 2", "alarm(2, 2, 2) = 3",
            "set(1, 1, 0, false) = 1", "set(2, 1, 2, false) = 1", "set(3, 1, 0, false) = 1", "tick(1, 9) = 2",
            "log(0) = A1@1 A3@1", "cancel(2) ! 5");
        says("Terms: an alarm that is cancelled behind its turn has expired", "counter(10, 1) = 1", "alarm(1, 0, 0) = 1",
            "alarm(1, 2, 1) = 2", "set(1, 1, 2, false) = 1", "set(2, 1, 0, false) = 1", "tick(1, 9) = 2",
            "log(0) = A1@1 A2@1", "cancel(1) ! 5");
    }

    private static void stepsMadeByActs() {
        List<String> eight = Rows.of(
            List.of("counter(10000, 1) = 1", "counter(1000000, 1) = 2"),
            Rows.each(1, 8, "alarm(1, 1, 2) = #"),
            Rows.each(1, 8, "set(#, 1, 2, false) = 1"),
            List.of("alarm(2, 0, 0) = 9", "alarm(2, 0, 0) = 10", "set(9, 20000, 0, true) = 1", "set(10, 20001, 0, true) = 1"));
        says("Terms: in one call at most 20000 STEPS are made by ACTs: 20000 are", Rows.of(eight,
            List.of("tick(1, 5000) = 20001", "cancel(9) ! 5", "cancel(10) = 1")));
        says("Terms: others beyond that are not made: the 20001st", Rows.of(eight,
            List.of("alarm(1, 1, 2) = 11", "set(11, 4999, 0, false) = 1", "tick(1, 5000) = 20002", "cancel(9) ! 5",
                "tick(2, 1) = 1", "cancel(10) ! 5")));
        says("Terms: others beyond that are not made, by POINTS neither", Rows.of(eight,
            List.of("table(1, 5) = 1", "point(1, 0, 2) = 1", "start(1, 4999) = 1", "tick(1, 5000) = 20002",
                "cancel(9) ! 5", "tick(2, 1) = 1", "cancel(10) ! 5")));
        says("Terms: at most 20000 in one call: another call makes others", Rows.of(eight,
            List.of("tick(1, 5000) = 20001", "tick(1, 1) = 9", "cancel(10) ! 5")));
        says("Terms: beyond 20000 STEPS, alarms are still cancelled by ACTs", Rows.of(eight,
            List.of("alarm(1, 1, 2) = 11", "alarm(1, 2, 10) = 12", "set(11, 4999, 0, false) = 1",
                "set(12, 5000, 0, false) = 1", "tick(1, 5000) = 20003", "cancel(10) ! 5")));
        says("Terms: the STEPS of the call itself are none of the 20000", Rows.of(eight,
            List.of("tick(2, 5000) = 0", "cancel(9) = 1", "cancel(10) = 1", "set(9, 25000, 0, true) = 1",
                "tick(1, 5000) = 20001", "cancel(9) ! 5")));
    }

    /** Each odd STEP of counter 1 asks for 4 STEPS of counter 2, and each second one of them for 3 of counter 3. */
    private static void stepsMadeByActsOfActs() {
        List<String> chain = Rows.of(
            List.of("counter(10, 1) = 1", "counter(1000000, 1) = 2", "counter(1000000, 1) = 3", "counter(10, 1) = 4"),
            Rows.each(1, 4, "alarm(1, 1, 2) = #"),
            Rows.each(5, 7, "alarm(2, 1, 3) = #"),
            Rows.each(1, 4, "set(#, 1, 2, false) = 1"),
            Rows.each(5, 7, "set(#, 2, 2, false) = 1"));
        says("Terms: at most 20000 STEPS by ACTs, those of ACTs within ACTs too: 2000 times 10 are made", Rows.of(chain,
            List.of("tick(1, 5000) = 22000", "alarm(2, 0, 0) = 8", "alarm(3, 0, 0) = 9", "set(8, 8001, 0, true) = 1",
                "set(9, 12001, 0, true) = 1", "tick(3, 1) = 1", "tick(2, 1) = 1")));
        says("Terms: at most 20000 STEPS by ACTs, the first that is not made is one within an ACT", Rows.of(chain,
            List.of("alarm(1, 1, 4) = 8", "set(8, 1, 0, false) = 1", "tick(1, 5000) = 22001", "alarm(2, 0, 0) = 9",
                "alarm(3, 0, 0) = 10", "set(9, 8001, 0, true) = 1", "set(10, 12000, 0, true) = 1", "tick(3, 1) = 1",
                "tick(2, 1) = 1")));
    }

    private static void expiredNoted() {
        List<String> one = List.of("counter(10000, 1) = 1", "alarm(1, 0, 0) = 1", "set(1, 2, 2, false) = 1");
        says("Terms: EXPIRED are noted, at most 3000: the 3000th is", Rows.of(one,
            List.of("tick(1, 5000) = 2500", "tick(1, 999) = 499", "expired(2998, 3) = 5998", "expired(2999, 3) ! -1",
                "tick(1, 1) = 1", "expired(2999, 0) = 0", "expired(2999, 1) = 1", "expired(2999, 2) = 0",
                "expired(2999, 3) = 6000", "expired(-1, 0) = 3000")));
        says("Terms: EXPIRED are noted, at most 3000: the 3001st is not", Rows.of(one,
            List.of("tick(1, 5000) = 2500", "tick(1, 1000) = 500", "tick(1, 2) = 1", "expired(3000, 0) ! -1",
                "expired(3000, 3) ! -1", "expired(2999, 3) = 6000", "expired(0, 3) = 2", "expired(-1, 0) = 3001")));
        says("Terms: at most 3000, also when one call goes beyond", "counter(10000, 1) = 1", "alarm(1, 0, 0) = 1",
            "alarm(1, 0, 0) = 2", "set(1, 1, 2, false) = 1", "set(2, 2, 2, false) = 1", "tick(1, 5000) = 5000",
            "expired(2999, 1) = 2", "expired(2999, 3) = 3000", "expired(3000, 0) ! -1", "expired(4999, 0) ! -1",
            "expired(-1, 0) = 5000");
        says("Terms: what is not noted happens all the same", Rows.of(one,
            List.of("counter(10, 1) = 2", "alarm(2, 0, 0) = 2", "alarm(1, 1, 2) = 3", "tick(1, 5000) = 2500",
                "tick(1, 1000) = 500", "set(3, 1, 0, false) = 1", "set(2, 1, 0, false) = 1", "tick(1, 1) = 2",
                "cancel(2) ! 5", "cancel(3) ! 5", "expired(3000, 0) ! -1")));
        says("Terms: EXPIRED are noted in their order, a thing before what its ACT makes happen", "counter(10, 1) = 1",
            "counter(10, 1) = 2", "alarm(2, 0, 0) = 1", "alarm(1, 1, 2) = 2", "set(1, 1, 0, false) = 1",
            "set(2, 3, 0, false) = 1", "tick(1, 3) = 2", "log(0) = A2@3 A1@1");
    }

    private static void firstRefusalThatFits() {
        says("Terms: the first that fits: -1 before -2", "counter(10, 1) = 1", "table(1, 5) = 1", "alarm(2, 3, 0) ! -1",
            "table(2, 0) ! -1", "point(2, -1, 0) ! -1", "point(1, 6, 2) ! -1", "point(1, 6, -1) ! -1",
            "sync(2, 1001) ! -1", "tick(2, -1) ! -1", "expired(0, 4) ! -1", "tick(1, 1) = 0");
        says("Terms: the first that fits: -1 before -3", "counter(10, 1) = 1", "counter(10, 1) = 2", "table(1, 5) = 1",
            "table(2, 5) = 2", "point(1, 0, 0) = 1", "next(3, 2) ! -1", "next(1, 3) ! -1", "point(1, 0, 3) ! -1",
            "start(1, 1) = 1", "point(1, 1, -1) ! -1", "tick(1, 6) = 2");
        says("Terms: the first that fits: -2 before -3", "counter(10, 1) = 1", "table(1, 5) = 1", "point(1, 6, 1) ! -2",
            "sync(1, 1001) ! -2", "sync(1, -1001) ! -2", "start(1, 1) = 1", "point(1, 6, 0) ! -2", "tick(1, 6) = 1");
        says("Terms: the first that fits: -1, -2 and -3 before -4, for alarms", Rows.of(
            List.of("counter(10, 1) = 1", "counter(10, 1) = 2"),
            Rows.each(1, 99, "alarm(1, 0, 0) = #"),
            List.of("alarm(1, 1, 2) = 100", "alarm(3, 0, 0) ! -1", "alarm(1, 0, 1) ! -1", "alarm(1, 1, 3) ! -1",
                "alarm(1, 2, 101) ! -1", "alarm(1, 3, 0) ! -2", "alarm(1, -1, 0) ! -2", "alarm(1, 1, 1) ! -3",
                "alarm(2, 1, 1) ! -3", "alarm(1, 0, 0) ! -4", "alarm(1, 1, 2) ! -4", "alarm(2, 2, 100) ! -4")));
        says("Terms: the first that fits: -1 and -2 before -4, for tables", Rows.of(
            List.of("counter(10, 1) = 1"),
            Rows.each(1, 20, "table(1, 5) = #"),
            List.of("table(2, 5) ! -1", "table(2, 0) ! -1", "table(1, 0) ! -2", "table(1, 1000001) ! -2",
                "table(1, 5) ! -4")));
        says("Terms: the first that fits: -1, -2 and -3 before -4, for POINTS", Rows.of(
            List.of("counter(10, 1) = 1", "table(1, 30) = 1"),
            Rows.each(1, 20, "point(1, #, 0) = #"),
            List.of("point(2, 0, 0) ! -1", "point(1, 0, 2) ! -1", "point(1, 0, -1) ! -1", "point(1, -1, 0) ! -2",
                "point(1, 31, 0) ! -2", "point(1, 20, 0) ! -3", "point(1, 0, 1) ! -3", "point(1, 0, 0) ! -4",
                "start(1, 1) = 1", "point(1, 0, 0) ! -3")));
        says("Terms: the first that fits: -2 before -4, for counters", Rows.of(
            Rows.each(1, 20, "counter(10, 1) = #"),
            List.of("counter(-1, 1) ! -2", "counter(1000000001, 1) ! -2", "counter(10, 0) ! -2", "counter(10, 1001) ! -2",
                "counter(0, 0) ! -2", "counter(10, 1) ! -4")));
    }
}
