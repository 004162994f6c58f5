import java.util.ArrayList;
import java.util.List;

/** Counts the answers that are not the ones that are due, and tells them. */
final class Due {
    static final int MOST_NOTED = 3000;

    private int asked;
    private int wrong;
    private String place = "";

    void in(String place) {
        this.place = place;
    }

    void is(String call, long got, long want) {
        asked++;
        if (got != want) {
            tell(call, Long.toString(got), Long.toString(want));
        }
    }

    void is(String call, String got, String want) {
        asked++;
        if (!got.equals(want)) {
            tell(call, got, want);
        }
    }

    private void tell(String call, String got, String want) {
        wrong++;
        System.out.println(place + ": " + call + " answered " + got + ", due is " + want);
    }

    boolean anyWrong() {
        return wrong > 0;
    }

    void end() {
        System.out.println(asked + " answers, " + wrong + " wrong");
        if (wrong > 0 || asked == 0) {
            System.exit(1);
        }
    }

    /** What EXPIRED from the i-th on: A1@5 is alarm 1 at VALUE 5, P2:7@0 table 2's POINT at 7, E2@0 its END. */
    static String log(AlarmTables x, int from) {
        List<String> all = new ArrayList<>();
        // The bound is for a class that is broken: a test fails then, and does not run forever.
        for (int i = from; i <= MOST_NOTED && x.expired(i, 0) != -1; i++) {
            String at = "@" + x.expired(i, 3);
            int number = x.expired(i, 1);
            int offset = x.expired(i, 2);
            switch (x.expired(i, 0)) {
                case 0 -> all.add("A" + number + (offset == 0 ? "" : "?" + offset) + at);
                case 1 -> all.add("P" + number + ":" + offset + at);
                case 2 -> all.add("E" + number + (offset == 0 ? "" : "?" + offset) + at);
                default -> all.add("?" + x.expired(i, 0));
            }
        }
        return String.join(" ", all);
    }
}
