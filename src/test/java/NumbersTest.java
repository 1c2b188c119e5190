/** Each number of each call: the least and the greatest that are as told, and the first that are not, at both ends. */
public final class NumbersTest {
    private static final int[] KINDS = {0, 5}, ROWS = {0, 4}, SEATS = {0, 5}, CELLS = {0, 29}, SOULS = {0, 6};
    private static final int[] MINUTES = {0, 99}, FUSS = {0, 40};

    private static final Desk.Maker ALL_OUT = () -> Desk.out(7);
    private static final Desk.Maker ALL_SIT = () -> Desk.sitting(7);

    public static void main(String[] args) {
        hallNumbers();
        showingNumbers();
        tellingNumbers();
        fussNumbers();
        ordinals();
        clueNumbers();
        guessNumbers();
        oddsNumbers();
        stateNumbers();
        soulsNotThereYet();
        Desk.end();
    }

    private static long[] both(long answer) {
        return new long[] {answer, answer};
    }

    private static long[] each(long atLeast, long atMost) {
        return new long[] {atLeast, atMost};
    }

    private static void hallNumbers() {
        Desk.part("promise 3");
        Desk.number("row r", ALL_OUT, (x, r) -> x.row(r, 3), ROWS, each(1, 5), -2);
        Desk.number("row kind", ALL_OUT, (x, kind) -> x.row(2, kind), KINDS, both(3), -2);
        Desk.part("promise 4");
        Desk.Maker six = () -> Desk.out(6);
        Desk.number("soul kind", six, (x, kind) -> x.soul(kind, 7), KINDS, both(6), -2);
        Desk.number("soul stub", six, (x, stub) -> x.soul(1, stub), CELLS, both(6), -2);
        Desk.part("promise 5");
        Desk.number("type c", ALL_OUT, (x, c) -> x.type(c), new int[] {0, 127}, both(32), -2);
    }

    private static void showingNumbers() {
        Desk.part("promise 8");
        Desk.number("shows i", ALL_OUT, (x, i) -> x.shows(i, 3), SOULS, both(0), -2);
        Desk.number("shows c", ALL_OUT, (x, c) -> x.shows(1, c), CELLS, both(2), -2);
        Desk.part("promise 9");
        // Soul 6 is a plain one and passes soul 0 on the way to cell 3; soul 0 itself passes nobody.
        Desk.number("moves i", ALL_SIT, (x, i) -> x.moves(i, 3), SOULS, each(0, 1), -2);
        Desk.Maker oneSits = () -> {
            UsherRows x = Desk.out(7);
            x.shows(1, 3);
            return x;
        };
        Desk.number("moves c", oneSits, (x, c) -> x.moves(1, c), CELLS, both(4), -2);
        Desk.part("promise 10");
        Desk.number("sends i", ALL_SIT, (x, i) -> x.sends(i), SOULS, both(0), -2);
        Desk.part("promise 11");
        Desk.number("coat c", ALL_OUT, (x, c) -> x.coat(c, 1), CELLS, both(1), -2);
        // On cell 9 a coat lies, on 10 none does.
        Desk.number("coat is", ALL_OUT, (x, is) -> x.coat(is == 0 ? 9 : 10, is), new int[] {0, 1}, both(1), -2);
        Desk.part("promise 12");
        Desk.number("minutes n", ALL_OUT, (x, n) -> x.minutes(n), new int[] {1, 99}, each(3, 101), -2);
    }

    private static void tellingNumbers() {
        Desk.part("promise 14");
        Desk.number("of i", ALL_OUT, (x, i) -> x.of(i, 1), SOULS, each(0, 6), -2);
        Desk.number("of what", ALL_OUT, (x, what) -> x.of(1, what), new int[] {0, 2}, each(1, -1), -2);
        Desk.part("promise 15");
        Desk.number("about c", ALL_OUT, (x, c) -> x.about(c, 0), CELLS, each(1, 5), -2);
        Desk.number("about what", ALL_OUT, (x, what) -> x.about(8, what), new int[] {0, 4}, each(2, 12), -2);
    }

    private static void fussNumbers() {
        Desk.part("promise 16");
        Desk.number("makes i", ALL_OUT, (x, i) -> x.makes(i, 3), SOULS, both(0), -2);
        Desk.number("makes c", ALL_OUT, (x, c) -> x.makes(1, c), CELLS, both(2), -2);
        Desk.part("promise 18");
        Desk.number("best i", ALL_OUT, (x, i) -> x.best(i, 0), SOULS, both(7), -1001);
        Desk.number("best what", ALL_OUT, (x, what) -> x.best(1, what), new int[] {0, 1}, each(7, 8), -1001);
        Desk.part("promise 19");
        Desk.number("beside a", ALL_OUT, (x, a) -> x.beside(a, 3, 1), SOULS, both(100), -2);
        Desk.number("beside b", ALL_OUT, (x, b) -> x.beside(3, b, 1), SOULS, both(100), -2);
        Desk.number("beside what", ALL_OUT, (x, what) -> x.beside(1, 3, what), new int[] {0, 1}, each(2, 100), -2);
        for (int i = 0; i < 7; i++) {
            int alike = i;
            Desk.refused("beside alike " + i, ALL_OUT, x -> x.beside(alike, alike, 0), -2, Desk.BAD);
        }
    }

    /** k begins with NONE and has no end: beyond the last it is "not so many", which is no refusal. */
    private static void ordinals() {
        Desk.part("promise 17");
        // 2 goes farther into row 0 than 0 does, and 1 farther into row 4 than 5: 1, 2, 0, 3, 4, 5, 6.
        long[] order = {3, 1, 2, 0, 3, 4, 5, 6, -5, -5};
        for (int k = -1; k < 9; k++) {
            int number = k;
            Desk.looks("order k = " + k, ALL_OUT, x -> x.order(number), order[k + 1]);
        }
        Desk.looks("order k = greatest", ALL_OUT, x -> x.order(Integer.MAX_VALUE), -5);
        Desk.refused("order k = -2", ALL_OUT, x -> x.order(-2), -10, Desk.BAD);
        Desk.refused("order k = least", ALL_OUT, x -> x.order(Integer.MIN_VALUE), -10, Desk.BAD);
        Desk.part("promise 23");
        int[] ks = {-1, 0, 7, 8, 27, 28, 29, 30, Integer.MAX_VALUE};
        // Cells 8 and 9 are kept by coats.
        long[] where = {28, 0, 7, 10, 29, -5, -5, -5, -5};
        for (int n = 0; n < ks.length; n++) {
            int number = ks[n];
            Desk.looks("where k = " + number, ALL_OUT, x -> x.where(0, number), where[n]);
        }
        Desk.refused("where k = -2", ALL_OUT, x -> x.where(0, -2), -10, Desk.BAD);
        Desk.refused("where k = least", ALL_OUT, x -> x.where(0, Integer.MIN_VALUE), -10, Desk.BAD);
        Desk.number("where i", ALL_OUT, (x, i) -> x.where(i, -1), SOULS, both(28), -10);
    }

    private static void clueNumbers() {
        Desk.part("promise 22");
        Desk.number("seen i", ALL_OUT, (x, i) -> x.seen(i, 1, 1), SOULS, both(2), -2);
        Desk.number("seen t", ALL_OUT, (x, t) -> x.seen(0, t, 1), MINUTES, both(2), -2);
        Desk.number("seen x", ALL_OUT, (x, fuss) -> x.seen(0, 1, fuss), FUSS, both(2), -2);
        Desk.part("promise 25");
        Desk.number("note r", ALL_OUT, (x, r) -> x.note(r, 1, 1), ROWS, both(2), -2);
        Desk.number("note s", ALL_OUT, (x, s) -> x.note(1, s, 1), SEATS, both(2), -2);
        Desk.number("note x", ALL_OUT, (x, sight) -> x.note(1, 1, sight), new int[] {0, 20}, both(2), -2);
        Desk.part("promise 26");
        Desk.number("mark i", ALL_OUT, (x, i) -> x.mark(i, 1, 1, 1), SOULS, both(2), -2);
        Desk.number("mark k", ALL_OUT, (x, k) -> x.mark(0, k, 1, 1), new int[] {0, 5}, both(2), -2);
        Desk.number("mark t", ALL_OUT, (x, t) -> x.mark(0, 1, t, 1), MINUTES, both(2), -2);
        Desk.number("mark x", ALL_OUT, (x, fuss) -> x.mark(0, 1, 1, fuss), FUSS, both(2), -2);
        Desk.part("promise 27");
        Desk.number("forget what", ALL_OUT, (x, what) -> x.forget(what), new int[] {0, 2}, both(1), -2);
    }

    private static void guessNumbers() {
        Desk.part("promise 24");
        Desk.number("tell i", ALL_OUT, (x, i) -> x.tell(i), SOULS, both(0), -2);
        Desk.part("promise 28");
        Desk.number("is r", ALL_OUT, (x, r) -> x.is(r), ROWS, both(63), -2);
        Desk.part("promise 29");
        Desk.number("look r", ALL_OUT, (x, r) -> x.look(r), ROWS, both(0), -2);
        Desk.part("promise 30");
        Desk.number("kinds i", ALL_OUT, (x, i) -> x.kinds(i), SOULS, both(63), -2);
        Desk.part("promise 31");
        Desk.number("ask i", ALL_OUT, (x, i) -> x.ask(i), SOULS, both(310), -2);
        Desk.part("promise 32");
        Desk.number("whispers a", ALL_OUT, (x, a) -> x.whispers(a, 3, 0), SOULS, both(6), -2);
        Desk.number("whispers b", ALL_OUT, (x, b) -> x.whispers(3, b, 0), SOULS, both(6), -2);
        // From the far end of a front row nothing is seen at all.
        Desk.number("whispers c", ALL_OUT, (x, c) -> x.whispers(0, 3, c), CELLS, each(6, 7), -2);
        for (int i = 0; i < 7; i++) {
            int alike = i;
            Desk.refused("whispers alike " + i, ALL_OUT, x -> x.whispers(alike, alike, 0), -2, Desk.BAD);
        }
    }

    private static void oddsNumbers() {
        Desk.part("promise 33");
        Desk.number("wet i", ALL_OUT, (x, i) -> x.wet(i, 3), SOULS, both(1), -2);
        Desk.number("wet c", ALL_OUT, (x, c) -> x.wet(0, c), new int[] {0, 10}, both(1), -2);
        Desk.part("promise 34");
        // What is due of 60 was worked out by a script of its own.
        Desk.number("evenings seed", ALL_OUT, (x, seed) -> x.evenings(seed, 60), new int[] {0, 999999}, each(48, 32), -2);
        Desk.number("evenings n", ALL_OUT, (x, n) -> x.evenings(0, n), new int[] {0, 60}, each(0, 48), -2);
    }

    private static void stateNumbers() {
        Desk.part("promise 35");
        Desk.number("part what", ALL_OUT, (x, what) -> x.part(what), new int[] {0, 1}, each(2, 1), -2);
        Desk.part("promise 36");
        Desk.number("image i", ALL_OUT, (x, i) -> x.image(i), new int[] {0, 1}, both(1), -2);
        Desk.part("promise 37");
        Desk.Maker bothKept = () -> {
            UsherRows x = Desk.out(7);
            x.image(1);
            return x;
        };
        Desk.number("from i", bothKept, (x, i) -> x.from(i), new int[] {0, 1}, both(1), -2);
        Desk.part("promise 38");
        Desk.number("status what", ALL_OUT, (x, what) -> x.status(what), new int[] {0, 2}, each(1, 0), -1);
        Desk.looks("status what = 1", ALL_OUT, x -> x.status(1), 1);
        Desk.part("promise 39");
        Desk.number("count what", ALL_OUT, (x, what) -> x.count(what), new int[] {0, 9}, each(7, 31), -2);
    }

    /** Of so many souls the last is there, the next one is not. */
    private static void soulsNotThereYet() {
        for (int n = 0; n < 7; n++) {
            int next = n;
            Desk.part("of " + n + " souls");
            Desk.Maker maker = () -> Desk.out(next);
            bad("shows", maker, x -> x.shows(next, 3));
            bad("moves", maker, x -> x.moves(next, 3));
            bad("sends", maker, x -> x.sends(next));
            bad("of", maker, x -> x.of(next, 0));
            bad("makes", maker, x -> x.makes(next, 3));
            bad("seen", maker, x -> x.seen(next, 1, 1));
            bad("tell", maker, x -> x.tell(next));
            bad("mark", maker, x -> x.mark(next, 1, 1, 1));
            bad("kinds", maker, x -> x.kinds(next));
            bad("ask", maker, x -> x.ask(next));
            bad("wet", maker, x -> x.wet(next, 1));
            bad("beside a", maker, x -> x.beside(next, 0, 0));
            bad("beside b", maker, x -> x.beside(0, next, 0));
            bad("whispers a", maker, x -> x.whispers(next, 0, 0));
            bad("whispers b", maker, x -> x.whispers(0, next, 0));
            Desk.refused("best", maker, x -> x.best(next, 0), -1001, Desk.BAD);
            Desk.refused("where", maker, x -> x.where(next, -1), -10, Desk.BAD);
            Desk.stands("soul", maker, x -> x.soul(3, 3), next);
            if (n > 0) {
                Desk.stands("the last shown in", maker, x -> x.shows(next - 1, 2) < 0 ? 0 : 1, 1);
            }
        }
    }

    private static void bad(String what, Desk.Maker maker, Desk.Call call) {
        Desk.refused(what + " of a soul not there yet", maker, call, -2, Desk.BAD);
    }
}
