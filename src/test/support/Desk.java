import java.util.ArrayList;
import java.util.List;

/** What the boundary tests share: halls to begin with, and checks of one call each. */
final class Desk {
    static final int BAD = 0, NO = 1, FULL = 2;

    /** A hall with all that a call could spoil: told anew for each check, as a look at all of it uses it up. */
    interface Maker {
        UsherRows make();
    }

    interface Call {
        long on(UsherRows x);
    }

    interface NumberCall {
        long on(UsherRows x, int number);
    }

    private static final String[] COMERS = {"soul 0 0;", "soul 1 29;", "soul 2 5;", "soul 3 12;", "soul 4 18;",
        "soul 5 24;", "soul 0 6;"};
    static final String NEXT_TEXT = "hall 5 4 3 2 1;soul 3 9;coat 1;";

    /** By kind of row and seat. */
    static final int[][] SIGHTS = {{4, 6, 8, 8, 6, 4}, {4, 6, 0, 8, 6, 4}, {8, 10, 12, 12, 10, 8},
        {2, 3, 4, 4, 3, 2}, {2, 4, 0, 6, 4, 2}, {8, 8, 8, 6, 2, 0}};
    /** By kind of soul and knees, ahead of minute 10, and from there on. */
    private static final int[][] EARLY = {{0, 1, 2, 3, 4, 5}, {2, 3, 4, 5, 6, 7}, {0, 1, 2, 3, 4, 5},
        {0, 1, 1, 2, 2, 3}, {1, 2, 3, 4, 5, 6}, {0, 4, 5, 6, 7, 8}};
    private static final int[][] LATE = {{0, 1, 2, 3, 4, 5}, {2, 3, 4, 5, 6, 7}, {0, 2, 4, 6, 8, 10},
        {0, 1, 1, 2, 2, 3}, {1, 2, 3, 4, 5, 6}, {0, 5, 7, 9, 11, 13}};

    private static String part = "";
    private static int wrong;
    private static int checks;

    private Desk() {
    }

    static void part(String name) {
        part = name;
    }

    static void end() {
        System.out.println(wrong == 0 ? checks + " checks hold" : wrong + " of " + checks + " checks fail");
        if (wrong != 0) {
            System.exit(1);
        }
    }

    static void due(String what, long got, long want) {
        checks++;
        if (got != want) {
            wrong++;
            System.out.println(part + ": " + what + " answered " + got + ", due is " + want);
        }
    }

    static void type(UsherRows x, String text) {
        for (int n = 0; n < text.length(); n++) {
            x.type(text.charAt(n));
        }
    }

    static UsherRows told(String text) {
        UsherRows x = new UsherRows();
        type(x, text);
        int items = x.read();
        if (items < 1) {
            due("read of '" + text + "'", items, 1);
        }
        return x;
    }

    /**
     * So many souls, all out, in minute 2, and something of everything: rows 1 2 3 4 5, coats on 8 and 9, two that may
     * be undone, image 0, a text of 31 bytes, one refused as BAD and one as NO; a note that row 1 is a box and, of two
     * souls or more, a mark that soul 1 is restless, one seen of the last soul, THE FRACTION 2 by 1.
     */
    static UsherRows out(int souls) {
        StringBuilder text = new StringBuilder("hall 1 2 3 4 5;coat 8;");
        for (int i = 0; i < souls; i++) {
            text.append(COMERS[i]);
        }
        UsherRows x = told(text.toString());
        x.minutes(4);
        x.image(0);
        x.undo();
        x.clear();
        type(x, NEXT_TEXT);
        x.minutes(2);
        x.coat(9, 1);
        x.note(1, 1, 10);
        if (souls > 1) {
            x.seen(souls - 1, 50, 0);
            x.mark(1, 2, 3, 4);
            x.wet(1, 5);
        }
        x.row(5, 0);
        x.coat(9, 1);
        return x;
    }

    /** Seven souls, each on its own stub, but for those from 'souls' on. */
    static UsherRows sitting(int souls) {
        UsherRows x = out(7);
        for (int i = 0; i < souls; i++) {
            x.shows(i, x.of(i, 1));
        }
        return x;
    }

    /** One of a kind, out, and so many plain ones in the first seats of row 0. */
    static UsherRows past(int kind, int knees) {
        StringBuilder text = new StringBuilder("hall 0 0 0 0 0;soul " + kind + " 0;");
        for (int k = 1; k <= knees; k++) {
            text.append("soul 0 0;sit " + k + " " + (k - 1) + ";");
        }
        return told(text.toString());
    }

    static int fuss(int kind, int knees, int minute) {
        return minute < 10 ? EARLY[kind][knees] : LATE[kind][knees];
    }

    static UsherRows inMinute(UsherRows x, int minute) {
        int at = x.count(3);
        while (at < minute) {
            at = x.minutes(Math.min(99, minute - at));
        }
        return x;
    }

    /** The answer is as due, and no refusal. */
    static void stands(String what, Maker maker, Call call, long want) {
        UsherRows x = maker.make();
        int[] before = status(x);
        due(what, call.on(x), want);
        sameStatus(what, before, status(x));
    }

    /** The answer is as due, and nothing at all is changed. */
    static void looks(String what, Maker maker, Call call, long want) {
        UsherRows x = maker.make();
        int[] before = status(x);
        due(what, call.on(x), want);
        sameStatus(what, before, status(x));
        sameAll(what, x, maker.make());
    }

    /** The answer is as due, STATUS tells one more by this reason alone, and nothing else is changed. */
    static void refused(String what, Maker maker, Call call, long want, int reason) {
        UsherRows x = maker.make();
        int[] due = status(x);
        due(what, call.on(x), want);
        due[reason]++;
        sameStatus(what, due, status(x));
        sameAll(what, x, maker.make());
    }

    /** Both ends of what a number may be, and the first beyond each, and the farthest. */
    static void number(String what, Maker maker, NumberCall call, int[] ends, long[] answers, long bad) {
        for (int e = 0; e < 2; e++) {
            int end = ends[e];
            stands(what + " = " + end, maker, x -> call.on(x, end), answers[e]);
        }
        int[] beyond = {ends[0] - 1, ends[1] + 1, Integer.MIN_VALUE, Integer.MAX_VALUE};
        for (int number : beyond) {
            refused(what + " = " + number, maker, x -> call.on(x, number), bad, BAD);
        }
    }

    static int[] status(UsherRows x) {
        return new int[] {x.status(0), x.status(1), x.status(2)};
    }

    private static void sameStatus(String what, int[] due, int[] got) {
        for (int reason = 0; reason < 3; reason++) {
            due("status(" + reason + ") behind " + what, got[reason], due[reason]);
        }
    }

    private static void sameAll(String what, UsherRows x, UsherRows twin) {
        List<Long> got = all(x);
        List<Long> want = all(twin);
        checks++;
        if (!got.equals(want)) {
            wrong++;
            System.out.println(part + ": " + what + " has changed something: " + got + ", due is " + want);
        }
    }

    /** All that can be told of an object but STATUS; what may be undone, images and the text are used up by it. */
    static List<Long> all(UsherRows x) {
        List<Long> all = new ArrayList<>();
        allNow(x, all);
        for (int i = 0; i < 2; i++) {
            long there = x.from(i);
            all.add(there);
            if (there == 1) {
                allNow(x, all);
            }
        }
        all.add((long) x.read());
        allNow(x, all);
        return all;
    }

    private static void allNow(UsherRows x, List<Long> all) {
        for (int what = 0; what < 10; what++) {
            all.add((long) x.count(what));
        }
        all.add(x.digest());
        for (int n = 0; n < 9 && x.count(8) > 0; n++) {
            all.add((long) x.undo());
            all.add(x.digest());
        }
    }
}
