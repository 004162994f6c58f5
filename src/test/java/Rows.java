import java.util.ArrayList;
import java.util.List;

/**
 * Calls written as rows and played on a new object, such as "tick(1, 3) = 1", "set(1, 0, 0, false) ! 3" (refused with
 * 3, so that it must change nothing) and "log(0) = A1@3 E1@4" (all that EXPIRED from 0 on, written as in Due).
 */
final class Rows {
    /** The document promises nothing behind so many calls, so no test may lean on more. */
    private static final int MOST_CALLS = 512;

    private final AlarmTables x = new AlarmTables();
    private int calls;

    /** Each answer must be as written; then once more without the refused calls, which can't have changed anything. */
    static void check(Due due, String sentence, List<String> rows) {
        due.in(sentence);
        play(due, rows);
        due.in(sentence + " (without what was refused)");
        play(due, rows.stream().filter(row -> !row.contains(" ! ")).toList());
    }

    private static void play(Due due, List<String> rows) {
        Rows played = new Rows();
        for (String row : rows) {
            String[] parts = row.split(" = | ! ", 2);
            due.is(parts[0], played.answer(parts[0]), parts[1]);
        }
    }

    /** The rows of a template for every number from first to last: # stands for it, and ^ for the one behind. */
    static List<String> each(int first, int last, String template) {
        List<String> rows = new ArrayList<>();
        for (int n = first; n <= last; n++) {
            rows.add(template.replace("#", Integer.toString(n)).replace("^", Integer.toString(n + 1)));
        }
        return rows;
    }

    @SafeVarargs
    static List<String> of(List<String>... parts) {
        List<String> rows = new ArrayList<>();
        for (List<String> part : parts) {
            rows.addAll(part);
        }
        return rows;
    }

    List<String> answers(List<String> asked) {
        List<String> all = new ArrayList<>();
        for (String call : asked) {
            all.add(call + " = " + answer(call));
        }
        return all;
    }

    String answer(String call) {
        int open = call.indexOf('(');
        String[] args = call.substring(open + 1, call.length() - 1).split(", ");
        try {
            return call.startsWith("log(") ? log(number(args, 0)) : Long.toString(ask(call.substring(0, open), args));
        } catch (ArithmeticException e) {
            return "throws";
        }
    }

    private long ask(String name, String[] args) {
        count(1);
        return switch (name) {
            case "counter" -> x.counter(amount(args, 0), amount(args, 1));
            case "alarm" -> x.alarm(number(args, 0), number(args, 1), number(args, 2));
            case "set" -> x.set(number(args, 0), amount(args, 1), amount(args, 2), truth(args, 3));
            case "cancel" -> x.cancel(number(args, 0));
            case "table" -> x.table(number(args, 0), amount(args, 1));
            case "point" -> x.point(number(args, 0), amount(args, 1), number(args, 2));
            case "start" -> x.start(number(args, 0), amount(args, 1));
            case "next" -> x.next(number(args, 0), number(args, 1));
            case "sync" -> x.sync(number(args, 0), amount(args, 1));
            case "tick" -> x.tick(number(args, 0), amount(args, 1));
            case "expired" -> x.expired(number(args, 0), number(args, 1));
            case "deviation" -> x.deviation(number(args, 0));
            default -> throw new IllegalStateException("no such call: " + name);
        };
    }

    private String log(int from) {
        int noted = Math.max(0, Math.min(Due.MOST_NOTED, x.expired(-1, 0)) - from);
        count(2 + 5 * noted);
        return Due.log(x, from);
    }

    private void count(int more) {
        calls += more;
        if (calls > MOST_CALLS) {
            throw new IllegalStateException("a test makes more than " + MOST_CALLS + " calls");
        }
    }

    private static long amount(String[] args, int i) {
        return switch (args[i]) {
            case "least" -> Long.MIN_VALUE;
            case "most" -> Long.MAX_VALUE;
            default -> Long.parseLong(args[i]);
        };
    }

    private static int number(String[] args, int i) {
        return switch (args[i]) {
            case "least" -> Integer.MIN_VALUE;
            case "most" -> Integer.MAX_VALUE;
            default -> Integer.parseInt(args[i]);
        };
    }

    private static boolean truth(String[] args, int i) {
        if (!args[i].equals("true") && !args[i].equals("false")) {
            throw new IllegalStateException("neither true nor false: " + args[i]);
        }
        return args[i].equals("true");
    }
}
