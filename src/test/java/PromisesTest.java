/** One method or more for each promise: ordinary inputs, the edges that the document names, wrong inputs. */
final class PromisesTest {
    private static final Due due = new Due();

    public static void main(String[] args) {
        newObject();
        counterAnswers();
        counterWrapsAndKeepsTicks();
        alarmAnswers();
        alarmCircles();
        alarmRoom();
        setAnswers();
        setRelativeAndAbsolute();
        cancelAnswers();
        tableAnswers();
        pointAnswers();
        pointOrderAndRoom();
        startAnswers();
        startBeginsLater();
        nextAnswers();
        nextGivesOver();
        nextLeavesRunningTablesAlone();
        nextAndDeviation();
        syncAnswers();
        syncDrawsTowardsLater();
        syncDrawsTowardsEarlier();
        tickAnswers();
        tickOrderWithinAStep();
        tickActsThatCancel();
        tickThroughTwentyCounters();
        tickLimitsStepsByActs();
        expiredAnswers();
        expiredRoom();
        deviationAnswers();
        due.end();
    }

    private static AlarmTables with(long... bases) {
        AlarmTables x = new AlarmTables();
        for (long base : bases) {
            x.counter(base, 1);
        }
        return x;
    }

    private static String makeCounter(AlarmTables x, long base, long ticks) {
        try {
            return Integer.toString(x.counter(base, ticks));
        } catch (ArithmeticException e) {
            return "throws";
        }
    }

    private static void newObject() {
        due.in("promise 1");
        AlarmTables x = new AlarmTables();
        due.is("tick", x.tick(1, 0), -1);
        due.is("alarm", x.alarm(1, 0, 0), -1);
        due.is("table", x.table(1, 5), -1);
        due.is("set", x.set(1, 1, 0, false), -1);
        due.is("start", x.start(1, 1), -1);
        due.is("how many expired", x.expired(-1, 0), 0);
        due.is("first expired", x.expired(0, 0), -1);
        due.is("deviation", x.deviation(1), 0);
        due.is("counter", x.counter(5, 1), 1);
        due.is("a second object has none of it", new AlarmTables().tick(1, 1), -1);
    }

    private static void counterAnswers() {
        due.in("promise 2");
        AlarmTables x = new AlarmTables();
        due.is("base 0", makeCounter(x, 0, 1), "throws");
        due.is("base 0, ticks 0", makeCounter(x, 0, 0), "-2");
        due.is("base 0, ticks 1001", makeCounter(x, 0, 1001), "-2");
        due.is("base -1", makeCounter(x, -1, 1), "-2");
        due.is("smallest base", makeCounter(x, Long.MIN_VALUE, 1), "-2");
        due.is("base above", makeCounter(x, 1000000001L, 1), "-2");
        due.is("base 2^32 + 5", makeCounter(x, (1L << 32) + 5, 1), "-2");
        due.is("ticks 0", makeCounter(x, 5, 0), "-2");
        due.is("ticks -1", makeCounter(x, 5, -1), "-2");
        due.is("ticks 1001", makeCounter(x, 5, 1001), "-2");
        due.is("base 1", makeCounter(x, 1, 1), "1");
        due.is("largest base and ticks", makeCounter(x, 1000000000L, 1000), "2");
        due.is("base 0 again", makeCounter(x, 0, 1000), "throws");
        for (int n = 3; n <= 20; n++) {
            due.is("counter " + n, makeCounter(x, n, 1), Integer.toString(n));
        }
        due.is("no room", makeCounter(x, 5, 1), "-4");
        due.is("no room, base 0", makeCounter(x, 0, 1), "-4");
        due.is("no room, ticks 0", makeCounter(x, 5, 0), "-2");
        due.is("no room, base -1", makeCounter(x, -1, 1), "-2");
        due.is("the twentieth is there", x.tick(20, 1), 0);
        due.is("there is no other", x.tick(21, 1), -1);
    }

    private static void counterWrapsAndKeepsTicks() {
        due.in("promise 2, VALUE and ticks");
        AlarmTables x = new AlarmTables();
        x.counter(3, 4);
        x.alarm(1, 0, 0);
        x.set(1, 1, 2, false);
        due.is("three ticks", x.tick(1, 3), 0);
        due.is("the fourth", x.tick(1, 1), 1);
        due.is("7 more: a STEP, 3 kept", x.tick(1, 7), 0);
        due.is("refused, nothing kept", x.tick(1, -1), -2);
        due.is("none", x.tick(1, 0), 0);
        due.is("5 more: two STEPS", x.tick(1, 5), 1);
        due.is("16 more: four STEPS", x.tick(1, 16), 2);
        due.is("log", Due.log(x, 0), "A1@1 A1@0 A1@2 A1@1");
    }

    private static void alarmAnswers() {
        due.in("promise 3");
        AlarmTables x = with(10, 10);
        due.is("counter 0", x.alarm(0, 0, 0), -1);
        due.is("counter 3", x.alarm(3, 0, 0), -1);
        due.is("counter -1", x.alarm(-1, 0, 0), -1);
        due.is("unknown counter before no such ACT", x.alarm(3, 7, 0), -1);
        due.is("ACT 0 of 1", x.alarm(1, 0, 1), -1);
        due.is("ACT 0 of -1", x.alarm(1, 0, -1), -1);
        due.is("ACT 1 of no counter", x.alarm(1, 1, 3), -1);
        due.is("ACT 1 of 0", x.alarm(1, 1, 0), -1);
        due.is("ACT 2 of no alarm", x.alarm(1, 2, 1), -1);
        due.is("ACT 2 of 0", x.alarm(1, 2, 0), -1);
        due.is("ACT 3", x.alarm(1, 3, 0), -2);
        due.is("ACT 3 of anything", x.alarm(1, 3, 77), -2);
        due.is("ACT -1", x.alarm(1, -1, 0), -2);
        due.is("ACT 0", x.alarm(1, 0, 0), 1);
        due.is("ACT 1", x.alarm(1, 1, 2), 2);
        due.is("ACT 2", x.alarm(2, 2, 2), 3);
        due.is("ACT 2 of itself", x.alarm(2, 2, 4), -1);
        due.is("not set at first", x.cancel(3), 5);
    }

    private static void alarmCircles() {
        due.in("promise 3, circles");
        AlarmTables x = with(10, 10, 10, 10);
        due.is("itself", x.alarm(1, 1, 1), -3);
        due.is("2 to 3", x.alarm(2, 1, 3), 1);
        due.is("3 to 2", x.alarm(3, 1, 2), -3);
        due.is("1 to 2", x.alarm(1, 1, 2), 2);
        due.is("3 to 1, by 2", x.alarm(3, 1, 1), -3);
        due.is("1 to 3 is no circle", x.alarm(1, 1, 3), 3);
        due.is("table of 3", x.table(3, 5), 1);
        due.is("POINT 3 to 4", x.point(1, 0, 4), 1);
        due.is("4 to 1, by a POINT", x.alarm(4, 1, 1), -3);
        due.is("4 to 3, by a POINT", x.alarm(4, 1, 3), -3);
        due.is("cancelling is no STEP", x.alarm(4, 2, 1), 4);
        due.is("a refusal made none", x.alarm(2, 1, 4), 5);
    }

    private static void alarmRoom() {
        due.in("promise 3, room");
        AlarmTables x = with(10, 10);
        for (int n = 1; n <= 100; n++) {
            due.is("alarm " + n, x.alarm(1, 0, 0), n);
        }
        due.is("no room", x.alarm(1, 0, 0), -4);
        due.is("no room, unknown", x.alarm(3, 0, 0), -1);
        due.is("no room, no such ACT", x.alarm(1, 3, 0), -2);
        due.is("no room, circle", x.alarm(1, 1, 1), -3);
        due.is("no room, a STEP", x.alarm(1, 1, 2), -4);
        due.is("refused, so 2 to 1 is free", x.table(2, 3), 1);
        due.is("POINT 2 to 1", x.point(1, 0, 1), 1);
        due.is("the last is there", x.set(100, 1, 0, false), 1);
        due.is("it expires", x.tick(1, 1), 1);
        due.is("log", Due.log(x, 0), "A100@1");
    }

    private static void setAnswers() {
        due.in("promise 4");
        AlarmTables x = with(10, 1);
        x.alarm(1, 0, 0);
        x.alarm(2, 0, 0);
        due.is("alarm 0", x.set(0, 1, 0, false), -1);
        due.is("alarm 3", x.set(3, 99, 1, false), -1);
        due.is("relative 0", x.set(1, 0, 0, false), 3);
        due.is("relative BASE", x.set(1, 10, 0, false), 3);
        due.is("relative -1", x.set(1, -1, 0, false), 3);
        due.is("absolute -1", x.set(1, -1, 0, true), 3);
        due.is("absolute BASE", x.set(1, 10, 0, true), 3);
        due.is("relative 2^32 + 1", x.set(1, (1L << 32) + 1, 0, false), 3);
        due.is("3 before 4", x.set(1, 10, 1, false), 3);
        due.is("CYCLE 1", x.set(1, 1, 1, false), 4);
        due.is("CYCLE -1", x.set(1, 1, -1, false), 4);
        due.is("CYCLE above BASE", x.set(1, 1, 11, false), 4);
        due.is("not SET by all that", x.cancel(1), 5);
        due.is("CYCLE BASE", x.set(1, 9, 10, false), 1);
        due.is("SET already", x.set(1, 1, 0, false), 2);
        due.is("SET already before 3 and 4", x.set(1, 0, 1, false), 2);
        due.is("unchanged, 8 STEPS", x.tick(1, 8), 0);
        due.is("unchanged, the ninth", x.tick(1, 1), 1);
        due.is("the next round", x.tick(1, 10), 1);
        due.is("base 1, relative", x.set(2, 1, 0, false), 3);
        due.is("base 1, CYCLE 1", x.set(2, 0, 1, true), 4);
        due.is("base 1, CYCLE 2", x.set(2, 0, 2, true), 4);
        due.is("base 1, absolute", x.set(2, 0, 0, true), 1);
        due.is("base 1, a round", x.tick(2, 3), 1);
        due.is("no more SET", x.set(2, 0, 0, true), 1);
    }

    private static void setRelativeAndAbsolute() {
        due.in("promise 4, when");
        AlarmTables x = with(5, 1000000000L);
        x.alarm(1, 0, 0);
        x.alarm(2, 0, 0);
        x.tick(1, 2);
        x.set(1, 2, 0, true);
        due.is("a whole round, nearly", x.tick(1, 4), 0);
        due.is("a whole round", x.tick(1, 1), 1);
        x.set(1, 1, 0, true);
        due.is("1 behind 2, nearly", x.tick(1, 3), 0);
        due.is("1 behind 2", x.tick(1, 1), 1);
        x.set(1, 3, 2, true);
        due.is("3 behind 1, nearly", x.tick(1, 1), 0);
        due.is("3 behind 1, then all two", x.tick(1, 5), 3);
        x.cancel(1);
        x.set(1, 4, 0, false);
        due.is("4 STEPS, nearly", x.tick(1, 3), 0);
        due.is("4 STEPS", x.tick(1, 9), 1);
        due.is("log", Due.log(x, 0), "A1@2 A1@1 A1@3 A1@0 A1@2 A1@1");
        x.set(2, 999999999, 1000000000L, true);
        due.is("far away", x.tick(2, 5000), 0);
        x.cancel(2);
        x.set(2, 5001, 1000000000L, true);
        due.is("near, far CYCLE", x.tick(2, 5000), 1);
        due.is("log", Due.log(x, 6), "A2@5001");
    }

    private static void cancelAnswers() {
        due.in("promise 5");
        AlarmTables x = with(10);
        x.alarm(1, 0, 0);
        x.alarm(1, 0, 0);
        due.is("alarm 0", x.cancel(0), -1);
        due.is("alarm 3", x.cancel(3), -1);
        due.is("alarm -1", x.cancel(-1), -1);
        due.is("not SET", x.cancel(1), 5);
        x.set(1, 2, 2, false);
        x.set(2, 2, 2, false);
        due.is("SET", x.cancel(1), 1);
        due.is("SET no more", x.cancel(1), 5);
        due.is("the other goes on", x.tick(1, 4), 2);
        due.is("log", Due.log(x, 0), "A2@2 A2@4");
        due.is("with a CYCLE it stays SET", x.cancel(2), 1);
        due.is("quiet", x.tick(1, 20), 0);
        due.is("SET anew", x.set(2, 1, 0, false), 1);
        due.is("expires", x.tick(1, 1), 1);
        due.is("CYCLE 0: no more SET", x.cancel(2), 5);
    }

    private static void tableAnswers() {
        due.in("promise 6");
        AlarmTables x = with(10);
        due.is("counter 0", x.table(0, 5), -1);
        due.is("counter 2", x.table(2, 0), -1);
        due.is("LENGTH 0", x.table(1, 0), -2);
        due.is("LENGTH -1", x.table(1, -1), -2);
        due.is("LENGTH 1000001", x.table(1, 1000001), -2);
        due.is("LENGTH 2^32 + 1", x.table(1, (1L << 32) + 1), -2);
        due.is("LENGTH 1", x.table(1, 1), 1);
        due.is("LENGTH 1000000", x.table(1, 1000000), 2);
        for (int n = 3; n <= 20; n++) {
            due.is("table " + n, x.table(1, n), n);
        }
        due.is("no room", x.table(1, 5), -4);
        due.is("no room, no counter", x.table(2, 5), -1);
        due.is("no room, LENGTH 0", x.table(1, 0), -2);
        x.start(20, 1);
        due.is("does not run by itself", x.start(1, 1), 1);
        due.is("the first END", x.tick(1, 2), 1);
        due.is("the last END", x.tick(1, 19), 1);
        due.is("log", Due.log(x, 0), "E1@2 E20@1");
    }

    private static void pointAnswers() {
        due.in("promise 7");
        AlarmTables x = with(10, 10);
        x.alarm(1, 0, 0);
        x.table(1, 5);
        due.is("table 0", x.point(0, 0, 0), -1);
        due.is("table 2", x.point(2, 99, 0), -1);
        due.is("no counter", x.point(1, 0, 3), -1);
        due.is("no alarm", x.point(1, 0, -2), -1);
        due.is("smallest act", x.point(1, 0, Integer.MIN_VALUE), -1);
        due.is("largest act", x.point(1, 0, Integer.MAX_VALUE), -1);
        due.is("-1 before -2", x.point(1, 6, 3), -1);
        due.is("OFFSET -1", x.point(1, -1, 0), -2);
        due.is("OFFSET LENGTH + 1", x.point(1, 6, 0), -2);
        due.is("OFFSET 2^32", x.point(1, 1L << 32, 0), -2);
        due.is("-2 before -3", x.point(1, 6, 1), -2);
        due.is("its own counter", x.point(1, 0, 1), -3);
        due.is("OFFSET 0", x.point(1, 0, 0), 1);
        due.is("OFFSET LENGTH", x.point(1, 5, 2), 2);
        due.is("between, cancels", x.point(1, 3, -1), 3);
        due.is("there is one at 0", x.point(1, 0, 0), -3);
        due.is("there is one at 3", x.point(1, 3, 2), -3);
        due.is("there is one at LENGTH", x.point(1, 5, 0), -3);
        due.is("a circle by a POINT, as an alarm", x.alarm(2, 1, 1), -3);
        x.table(2, 5);
        due.is("a circle by a POINT, as a POINT", x.point(2, 0, 1), -3);
        x.start(1, 3);
        due.is("it is to begin", x.point(1, 1, 0), -3);
        x.tick(1, 4);
        due.is("it runs", x.point(1, 1, 0), -3);
        due.is("-2 before it runs", x.point(1, 6, 0), -2);
        x.tick(1, 10);
        due.is("it has stopped", x.point(1, 1, 0), 4);
    }

    private static void pointOrderAndRoom() {
        due.in("promise 7, order and room");
        AlarmTables x = with(100, 100);
        x.alarm(1, 0, 0);
        x.alarm(2, 0, 0);
        x.set(1, 50, 0, false);
        x.set(2, 1, 0, false);
        x.table(1, 30);
        x.point(1, 30, 0);
        x.point(1, 7, 2);
        x.point(1, 9, -1);
        x.point(1, 0, 0);
        x.point(1, 8, -1);
        x.start(1, 2);
        due.is("all of it", x.tick(1, 60), 7);
        due.is("log", Due.log(x, 0), "P1:0@2 P1:7@9 A2@1 P1:8@10 P1:9@11 P1:30@32 E1@32");
        due.is("alarm 1 was cancelled", x.cancel(1), 5);
        for (int n = 6; n <= 20; n++) {
            due.is("POINT " + n, x.point(1, 4 + n, 0), n);
        }
        due.is("no room", x.point(1, 1, 0), -4);
        due.is("no room, but there is one", x.point(1, 10, 0), -3);
        due.is("no room, circle", x.point(1, 1, 1), -3);
        due.is("no room, OFFSET", x.point(1, 31, 0), -2);
        due.is("no room, unknown", x.point(1, 1, 3), -1);
    }

    private static void startAnswers() {
        due.in("promise 8");
        AlarmTables x = with(10);
        x.table(1, 3);
        due.is("table 0", x.start(0, 1), -1);
        due.is("table 2", x.start(2, 0), -1);
        due.is("at 0", x.start(1, 0), 3);
        due.is("at -1", x.start(1, -1), 3);
        due.is("at 1000001", x.start(1, 1000001), 3);
        due.is("at 2^32 + 1", x.start(1, (1L << 32) + 1), 3);
        due.is("not running by that", x.sync(1, 0), -3);
        due.is("at 2", x.start(1, 2), 1);
        due.is("it is to begin", x.start(1, 1), 2);
        due.is("2 before 3", x.start(1, 0), 2);
        due.is("begins", x.tick(1, 2), 0);
        due.is("it runs", x.start(1, 1), 2);
        due.is("END", x.tick(1, 3), 1);
        due.is("at 1000000", x.start(1, 1000000), 1);
        due.is("log", Due.log(x, 0), "E1@5");
    }

    private static void startBeginsLater() {
        due.in("promise 8, when");
        AlarmTables x = with(7);
        x.table(1, 3);
        x.table(1, 1000000);
        x.point(1, 0, 0);
        x.point(1, 1, 0);
        x.start(1, 9);
        due.is("nearly", x.tick(1, 8), 0);
        due.is("at 9 STEPS", x.tick(1, 1), 1);
        due.is("to the END", x.tick(1, 3), 2);
        due.is("stopped", x.tick(1, 50), 0);
        x.start(1, 1);
        due.is("once more", x.tick(1, 4), 3);
        due.is("log", Due.log(x, 0), "P1:0@2 P1:1@3 E1@5 P1:0@0 P1:1@1 E1@3");
        x.point(2, 4999, 0);
        x.start(2, 1);
        due.is("a long way, nearly", x.tick(1, 4999), 0);
        due.is("a long way", x.tick(1, 1), 1);
    }

    private static void nextAnswers() {
        due.in("promise 9");
        AlarmTables x = with(10, 10);
        x.table(1, 2);
        x.table(1, 2);
        x.table(2, 2);
        due.is("table 0", x.next(0, 1), -1);
        due.is("table 4", x.next(4, 0), -1);
        due.is("other 4", x.next(1, 4), -1);
        due.is("other -1", x.next(1, -1), -1);
        due.is("another counter", x.next(1, 3), -3);
        due.is("another counter, back", x.next(3, 2), -3);
        due.is("another table", x.next(1, 2), 1);
        due.is("itself", x.next(2, 2), 1);
        due.is("nothing", x.next(3, 0), 1);
        x.start(1, 1);
        due.is("a refusal changes nothing", x.next(1, 3), -3);
        due.is("1 gives over to 2", x.tick(1, 3), 1);
        due.is("2 runs", x.start(2, 1), 2);
        due.is("1 does not", x.sync(1, 0), -3);
        due.is("while it runs", x.next(2, 0), 1);
        due.is("nothing behind 2", x.tick(1, 20), 1);
        due.is("log", Due.log(x, 0), "E1@3 E2@5");
    }

    private static void nextGivesOver() {
        due.in("promise 9, at once");
        AlarmTables x = with(10);
        x.table(1, 2);
        x.table(1, 1);
        x.point(1, 0, 0);
        x.point(1, 2, 0);
        x.point(2, 0, 0);
        x.point(2, 1, 0);
        x.next(1, 2);
        x.next(2, 1);
        x.start(2, 1);
        due.is("the first STEP", x.tick(1, 1), 1);
        due.is("the second", x.tick(1, 1), 3);
        due.is("the third", x.tick(1, 1), 0);
        due.is("the fourth", x.tick(1, 1), 3);
        due.is("a whole round", x.tick(1, 3), 6);
        due.is("log", Due.log(x, 0), "P2:0@1 P2:1@2 E2@2 P1:0@2 P1:2@4 E1@4 P2:0@4 P2:1@5 E2@5 P1:0@5 P1:2@7 E1@7 P2:0@7");
    }

    private static void nextLeavesRunningTablesAlone() {
        due.in("promise 9, running");
        AlarmTables x = with(100);
        x.table(1, 2);
        x.table(1, 10);
        x.table(1, 1);
        x.next(1, 2);
        x.next(3, 1);
        x.start(1, 1);
        x.start(2, 1);
        x.tick(1, 30);
        due.is("begun", Due.log(x, 0), "E1@3 E2@11");
        x.start(1, 1);
        x.start(2, 20);
        x.tick(1, 18);
        due.is("to begin", Due.log(x, 2), "E1@33");
        due.is("still to begin", x.tick(1, 11), 0);
        due.is("its END", x.tick(1, 1), 1);
        x.start(1, 4);
        x.start(3, 5);
        x.tick(1, 10);
        due.is("it stopped just before, so it begins", Due.log(x, 4), "E1@66 E3@66 E1@68");
    }

    private static void nextAndDeviation() {
        due.in("promise 9, DEVIATION");
        AlarmTables x = with(100);
        x.table(1, 2);
        x.next(1, 1);
        x.start(1, 1);
        x.sync(1, 5);
        x.tick(1, 14);
        due.is("kept for the same", Due.log(x, 0), "E1@5 E1@9 E1@12 E1@14");
        AlarmTables y = with(100);
        y.table(1, 2);
        y.table(1, 1);
        y.next(1, 2);
        y.start(2, 1);
        y.sync(2, 5);
        due.is("END of 2", y.tick(1, 4), 1);
        due.is("left over in 2", y.deviation(2), 3);
        y.start(1, 1);
        y.sync(1, -7);
        due.is("END of 1", y.tick(1, 2), 1);
        due.is("left over in 1", y.deviation(1), -6);
        due.is("0 for another", y.deviation(2), 0);
        due.is("its END", y.tick(1, 1), 1);
        due.is("log", Due.log(y, 0), "E2@4 E1@6 E2@7");
        y.start(1, 1);
        due.is("0 when started", y.deviation(1), 0);
    }

    private static void syncAnswers() {
        due.in("promise 10");
        AlarmTables x = with(100);
        x.table(1, 50);
        due.is("table 0", x.sync(0, 1), -1);
        due.is("table 2", x.sync(2, 5000), -1);
        due.is("does not run", x.sync(1, 1), -3);
        due.is("-2 before -3", x.sync(1, 1001), -2);
        x.start(1, 2);
        due.is("not begun", x.sync(1, 1000), 1000);
        due.is("above", x.sync(1, 1), -2);
        due.is("largest", x.sync(1, Long.MAX_VALUE), -2);
        due.is("smallest", x.sync(1, Long.MIN_VALUE), -2);
        due.is("below", x.sync(1, -2001), -2);
        due.is("down to -1000", x.sync(1, -2000), -1000);
        due.is("below -1000", x.sync(1, -1), -2);
        due.is("smallest, at -1000", x.sync(1, Long.MIN_VALUE), -2);
        due.is("by 0", x.sync(1, 0), -1000);
        due.is("up", x.sync(1, 999), -1);
        x.tick(1, 2);
        due.is("begun", x.sync(1, 4), 4);
        due.is("only what comes next is drawn", x.tick(1, 48), 0);
        due.is("49 STEPS", x.tick(1, 1), 1);
        due.is("left over", x.deviation(1), 4);
        due.is("stopped", x.sync(1, 1), -3);
        due.is("stopped, -2 first", x.sync(1, 997), -2);
    }

    private static AlarmTables drawn(long by) {
        AlarmTables x = with(100);
        x.table(1, 10);
        x.point(1, 0, 0);
        x.point(1, 3, 0);
        x.point(1, 5, 0);
        x.point(1, 6, 0);
        x.start(1, 1);
        x.sync(1, by);
        return x;
    }

    private static void syncDrawsTowardsLater() {
        due.in("promise 10, later");
        AlarmTables x = drawn(5);
        x.tick(1, 1);
        due.is("at the beginning", x.deviation(1), 3);
        x.tick(1, 8);
        due.is("at 3", x.deviation(1), 1);
        x.tick(1, 1);
        due.is("at 5", x.deviation(1), 0);
        x.tick(1, 50);
        due.is("log", Due.log(x, 0), "P1:0@1 P1:3@6 P1:5@10 P1:6@12 E1@16");
    }

    private static void syncDrawsTowardsEarlier() {
        due.in("promise 10, earlier");
        AlarmTables x = drawn(-5);
        x.tick(1, 1);
        due.is("at the beginning", x.deviation(1), -3);
        x.tick(1, 1);
        due.is("at 3", x.deviation(1), -2);
        x.tick(1, 1);
        due.is("at 5, not below 1 - d", x.deviation(1), -2);
        x.tick(1, 1);
        due.is("at 6", x.deviation(1), 0);
        x.tick(1, 50);
        due.is("log", Due.log(x, 0), "P1:0@1 P1:3@2 P1:5@3 P1:6@4 E1@6");
        AlarmTables y = drawn(-1);
        y.tick(1, 50);
        due.is("by one", Due.log(y, 0), "P1:0@1 P1:3@3 P1:5@5 P1:6@6 E1@10");
    }

    private static void tickAnswers() {
        due.in("promise 11");
        AlarmTables x = new AlarmTables();
        x.counter(10, 1);
        x.counter(10, 19);
        x.counter(10, 20);
        x.alarm(1, 0, 0);
        x.set(1, 1, 2, false);
        due.is("counter 0", x.tick(0, 1), -1);
        due.is("counter 4", x.tick(4, -1), -1);
        due.is("n -1", x.tick(1, -1), -2);
        due.is("n 5001", x.tick(1, 5001), -2);
        due.is("n 100001", x.tick(3, 100001), -2);
        due.is("n 2^32", x.tick(1, 1L << 32), -2);
        due.is("largest n", x.tick(1, Long.MAX_VALUE), -2);
        due.is("n 0", x.tick(1, 0), 0);
        due.is("n 1: nothing was ticked before", x.tick(1, 1), 1);
        due.is("n 5000", x.tick(1, 5000), 2500);
        due.is("18 kept", x.tick(2, 18), 0);
        due.is("5001 STEPS with those kept", x.tick(2, 95001), -2);
        due.is("5000 STEPS with those kept", x.tick(2, 95000), 0);
        due.is("19 kept", x.tick(3, 19), 0);
        due.is("n 100000", x.tick(3, 100000), 0);
    }

    private static void tickOrderWithinAStep() {
        due.in("promise 11, order");
        AlarmTables x = with(10, 10);
        x.alarm(2, 0, 0);
        x.alarm(1, 1, 2);
        x.alarm(1, 0, 0);
        x.table(1, 1);
        x.point(1, 0, 0);
        x.point(1, 1, 2);
        x.next(1, 1);
        x.set(1, 1, 2, false);
        x.set(3, 2, 0, false);
        x.set(2, 2, 0, false);
        x.start(1, 1);
        due.is("two STEPS", x.tick(1, 2), 7);
        due.is("log", Due.log(x, 0), "P1:0@1 A2@2 A1@1 A3@2 P1:1@2 E1@2 P1:0@2");
        due.is("one more", x.tick(1, 1), 4);
        due.is("log", Due.log(x, 7), "P1:1@3 A1@3 E1@3 P1:0@3");
        AlarmTables y = with(10);
        y.table(1, 4);
        y.table(1, 3);
        y.alarm(1, 0, 0);
        y.start(2, 2);
        y.start(1, 1);
        y.set(1, 5, 0, false);
        due.is("alarms, then tables by number", y.tick(1, 9), 3);
        due.is("log", Due.log(y, 0), "A1@5 E1@5 E2@5");
    }

    private static void tickActsThatCancel() {
        due.in("promise 11, cancelling");
        AlarmTables x = with(10, 10);
        x.alarm(1, 1, 2);
        x.alarm(1, 0, 0);
        x.alarm(2, 2, 2);
        x.set(1, 1, 2, false);
        x.set(2, 1, 2, false);
        x.set(3, 1, 0, false);
        due.is("cancelled before its turn", x.tick(1, 1), 2);
        due.is("log", Due.log(x, 0), "A1@1 A3@1");
        due.is("2 is SET no more", x.cancel(2), 5);
        x.alarm(2, 2, 1);
        x.set(4, 1, 0, false);
        due.is("by way of another counter", x.tick(1, 2), 2);
        due.is("an alarm cancels itself, CYCLE or not", x.cancel(1), 5);
        x.set(3, 1, 0, false);
        due.is("cancelling what is not SET", x.tick(2, 1), 1);
        due.is("leaves it so", x.cancel(2), 5);
    }

    private static void tickThroughTwentyCounters() {
        due.in("promise 11, twenty counters");
        AlarmTables x = new AlarmTables();
        for (int n = 1; n <= 20; n++) {
            x.counter(100, 3);
        }
        for (int n = 1; n <= 20; n++) {
            due.is("alarm " + n, n < 20 ? x.alarm(n, 1, n + 1) : x.alarm(n, 0, 0), n);
            x.set(n, 1, 0, false);
        }
        due.is("the last cannot STEP the first", x.alarm(20, 1, 1), -3);
        due.is("the last cannot STEP the one before", x.alarm(20, 1, 19), -3);
        due.is("a STEP by an ACT needs no ticks", x.tick(1, 3), 20);
        due.is("the last one", x.expired(19, 1), 20);
        due.is("its VALUE", x.expired(19, 3), 1);
    }

    private static void tickLimitsStepsByActs() {
        due.in("promise 11, STEPS by ACTs");
        AlarmTables x = with(100, 1000000, 1000000);
        for (int n = 1; n <= 9; n++) {
            x.alarm(1, 1, 2);
            x.set(n, 1, 2, false);
        }
        x.alarm(2, 0, 0);
        x.table(1, 1);
        x.point(1, 1, 3);
        x.next(1, 1);
        due.is("2222 times 9 fit, and 2 of the next", x.tick(1, 5000), 22500);
        x.set(10, 20001, 0, true);
        due.is("the VALUE is 20000", x.tick(2, 1), 1);
        x.set(10, 20003, 0, true);
        due.is("a new call makes new ones", x.tick(1, 2), 10);
        due.is("in order", x.expired(-1, 0), 22511);
        x.start(1, 1);
        due.is("POINTs make them too: 22500 + 4999 POINTs and ENDs", x.tick(1, 5000), 32498);
        x.alarm(3, 0, 0);
        due.is("not yet at 4000", x.set(11, 4000, 0, true), 1);
        due.is("more than two thirds were spent on counter 2", x.tick(3, 5000), 1);
    }

    private static void expiredAnswers() {
        due.in("promise 12");
        AlarmTables x = with(10);
        x.alarm(1, 0, 0);
        x.alarm(1, 0, 0);
        x.table(1, 5);
        x.table(1, 4);
        x.point(2, 3, 0);
        x.set(2, 4, 0, false);
        x.start(2, 2);
        due.is("none, how many", x.expired(-1, 0), 0);
        due.is("none", x.expired(0, 0), -1);
        due.is("none, no such what", x.expired(0, 9), -1);
        x.tick(1, 6);
        long[][] want = {{0, 2, 0, 4}, {1, 2, 3, 5}, {2, 2, 0, 6}};
        for (int i = 0; i < want.length; i++) {
            for (int what = 0; what < 4; what++) {
                due.is("expired(" + i + ", " + what + ")", x.expired(i, what), want[i][what]);
            }
            due.is("what 4", x.expired(i, 4), -2);
            due.is("what -1", x.expired(i, -1), -2);
        }
        due.is("how many", x.expired(-1, 0), 3);
        due.is("-1 with another what", x.expired(-1, 1), -1);
        due.is("-1 with no such what", x.expired(-1, 4), -1);
        due.is("i -2", x.expired(-2, 0), -1);
        due.is("i 3", x.expired(3, 0), -1);
        due.is("largest i", x.expired(Integer.MAX_VALUE, 0), -1);
        due.is("smallest i", x.expired(Integer.MIN_VALUE, 0), -1);
        x.tick(1, 5);
        due.is("the VALUE is that of then", x.expired(0, 3), 4);
    }

    private static void expiredRoom() {
        due.in("promise 12, room");
        AlarmTables x = with(1000);
        x.alarm(1, 0, 0);
        x.set(1, 2, 2, false);
        x.tick(1, 5000);
        due.is("2500", x.expired(2499, 3), 0);
        due.is("no more", x.expired(2500, 3), -1);
        x.tick(1, 998);
        due.is("2999", x.expired(2998, 3), 998);
        due.is("and no more", x.expired(2999, 0), -1);
        x.tick(1, 2);
        due.is("3000", x.expired(2999, 3), 0);
        due.is("how many, 3000", x.expired(-1, 0), 3000);
        due.is("tick counts on", x.tick(1, 4), 2);
        due.is("how many, 3002", x.expired(-1, 0), 3002);
        due.is("not kept", x.expired(3000, 0), -1);
        due.is("not kept, no such what", x.expired(3001, 4), -1);
        // Not all of them: nothing is promised behind the 512th call.
        for (int i = 0; i < 3000; i += 13) {
            due.is("VALUE of " + i, x.expired(i, 3), (2 * i + 2) % 1000);
            due.is("alarm of " + i, x.expired(i, 1), 1);
        }
    }

    private static void deviationAnswers() {
        due.in("promise 13");
        AlarmTables x = with(100);
        x.table(1, 5);
        due.is("table 0", x.deviation(0), 0);
        due.is("table 2", x.deviation(2), 0);
        due.is("table -1", x.deviation(-1), 0);
        due.is("not started", x.deviation(1), 0);
        x.start(1, 1);
        x.sync(1, 7);
        due.is("to begin", x.deviation(1), 7);
        x.sync(1, 1000);
        due.is("after a refusal", x.deviation(1), 7);
        x.tick(1, 1);
        due.is("begun", x.deviation(1), 5);
        x.sync(1, -20);
        due.is("below 0", x.deviation(1), -15);
        x.tick(1, 10);
        due.is("behind the END", x.deviation(1), -15);
        x.start(1, 1);
        due.is("started anew", x.deviation(1), 0);
    }
}
