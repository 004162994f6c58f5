import java.util.Random;

/** Whatever the arguments, nothing is thrown but the ArithmeticException of counter(). */
final class WildTest {
    private static final long[] WILD = {
        Long.MIN_VALUE, Long.MIN_VALUE + 1, Integer.MIN_VALUE, -1000000001L, -1001, -1000, -101, -21, -3, -2, -1, 0, 1, 2,
        3, 4, 5, 19, 20, 21, 99, 100, 101, 999, 1000, 1001, 2999, 3000, 5000, 5001, 100000, 100001, 1000000, 1000001,
        999999999, 1000000000, 1000000001, Integer.MAX_VALUE, Integer.MAX_VALUE + 1L, Long.MAX_VALUE - 1, Long.MAX_VALUE};

    private static final Due due = new Due();

    public static void main(String[] args) {
        for (int seed = 1; seed <= 200; seed++) {
            due.in("seed " + seed);
            Random random = new Random(seed);
            AlarmTables x = new AlarmTables();
            for (int i = 0; i < 512; i++) {
                callOnce(x, random);
            }
        }
        due.end();
    }

    private static void callOnce(AlarmTables x, Random r) {
        int which = r.nextInt(12);
        String thrown = "nothing";
        try {
            call(x, which, r);
        } catch (ArithmeticException e) {
            thrown = which == 0 && "a counter cannot wrap at 0".equals(e.getMessage()) ? "nothing" : e.toString();
        } catch (RuntimeException | StackOverflowError e) {
            thrown = e.toString();
        }
        due.is("call " + which + " throws", thrown, "nothing");
    }

    private static void call(AlarmTables x, int which, Random r) {
        switch (which) {
            case 0 -> x.counter(wild(r), wild(r));
            case 1 -> x.alarm(number(r), number(r), number(r));
            case 2 -> x.set(number(r), wild(r), wild(r), r.nextBoolean());
            case 3 -> x.cancel(number(r));
            case 4 -> x.table(number(r), wild(r));
            case 5 -> x.point(number(r), wild(r), number(r));
            case 6 -> x.start(number(r), wild(r));
            case 7 -> x.next(number(r), number(r));
            case 8 -> x.sync(number(r), wild(r));
            case 9 -> x.tick(number(r), wild(r));
            case 10 -> x.expired(number(r), number(r));
            default -> x.deviation(number(r));
        }
    }

    private static long wild(Random r) {
        return WILD[r.nextInt(WILD.length)];
    }

    private static int number(Random r) {
        return r.nextInt(3) > 0 ? 1 + r.nextInt(4) : (int) wild(r);
    }
}
