/** Each call that is refused, by each reason: what it answers, that nothing but STATUS changes, which reason is first. */
public final class RefusalsTest {
    private static final int LAST = 9999;

    // Souls 0 to 3 sit on their stubs 0, 29, 5 and 12; 4, 5 and 6 are out; coats lie on 8 and 9.
    private static final Desk.Maker SOME_SIT = () -> Desk.sitting(4);
    private static final Desk.Maker AT_LAST = () -> Desk.inMinute(Desk.sitting(4), LAST);
    private static final Desk.Maker BEFORE_LAST = () -> Desk.inMinute(Desk.sitting(4), LAST - 1);

    public static void main(String[] args) {
        shows();
        moves();
        sends();
        coat();
        undo();
        whoSits();
        from();
        full();
        badComesFirst();
        badComesFirstAtLast();
        badComesBeforeFull();
        notRefused();
        statusCounts();
        statusStays();
        Desk.end();
    }

    private static void no(String what, Desk.Maker maker, Desk.Call call) {
        Desk.refused(what, maker, call, -3, Desk.NO);
    }

    private static void bad(String what, Desk.Maker maker, Desk.Call call) {
        Desk.refused(what, maker, call, -2, Desk.BAD);
    }

    private static void full(String what, Desk.Maker maker, Desk.Call call) {
        Desk.refused(what, maker, call, -4, Desk.FULL);
    }

    private static void shows() {
        Desk.part("promise 8");
        no("one who sits", SOME_SIT, x -> x.shows(0, 3));
        no("one who sits, to its own cell", SOME_SIT, x -> x.shows(0, 0));
        no("to where somebody sits", SOME_SIT, x -> x.shows(4, 29));
        no("to where soul 0 sits", SOME_SIT, x -> x.shows(4, 0));
        no("to a coat", SOME_SIT, x -> x.shows(4, 8));
        no("one who sits, to a coat", SOME_SIT, x -> x.shows(0, 8));
        no("in minute 9999", AT_LAST, x -> x.shows(4, 18));
        // A couple makes 1 past nobody.
        Desk.stands("in minute 9998", BEFORE_LAST, x -> x.shows(4, 18), 1);
        Desk.stands("its minute", BEFORE_LAST, x -> x.shows(4, 18) + x.count(3), 1 + LAST);
        Desk.stands("beside a coat", SOME_SIT, x -> x.shows(4, 7), 1);
        Desk.stands("where a coat has been", SOME_SIT, x -> x.coat(8, 0) + x.shows(4, 8), 2);
        Desk.stands("where one has been", SOME_SIT, x -> x.sends(3) + x.shows(4, 12), 1);
    }

    private static void moves() {
        Desk.part("promise 9");
        no("one who is out", SOME_SIT, x -> x.moves(4, 3));
        no("to where another sits", SOME_SIT, x -> x.moves(0, 29));
        no("to its own cell", SOME_SIT, x -> x.moves(0, 0));
        no("to its own cell, farthest", SOME_SIT, x -> x.moves(1, 29));
        no("to a coat", SOME_SIT, x -> x.moves(0, 9));
        no("one who is out, to a coat", SOME_SIT, x -> x.moves(4, 9));
        no("in minute 9999", AT_LAST, x -> x.moves(0, 1));
        Desk.stands("in minute 9998", BEFORE_LAST, x -> x.moves(0, 1), 0);
        Desk.stands("its minute", BEFORE_LAST, x -> x.moves(0, 1) + x.count(3), LAST);
    }

    private static void sends() {
        Desk.part("promise 10");
        no("one who is out", SOME_SIT, x -> x.sends(4));
        no("one who is out, in minute 9999", AT_LAST, x -> x.sends(4));
        no("in minute 9999", AT_LAST, x -> x.sends(0));
        Desk.stands("in minute 9998", BEFORE_LAST, x -> x.sends(0), 0);
        Desk.stands("its minute", BEFORE_LAST, x -> x.sends(0) + x.count(3), LAST);
        Desk.stands("once", SOME_SIT, x -> x.sends(0), 0);
    }

    private static void coat() {
        Desk.part("promise 11");
        no("laid where one lies", SOME_SIT, x -> x.coat(8, 1));
        no("taken where none lies", SOME_SIT, x -> x.coat(7, 0));
        no("laid where somebody sits", SOME_SIT, x -> x.coat(29, 1));
        no("laid where soul 0 sits", SOME_SIT, x -> x.coat(0, 1));
        no("taken where somebody sits", SOME_SIT, x -> x.coat(29, 0));
        Desk.stands("taken where one lies", SOME_SIT, x -> x.coat(8, 0), 1);
        Desk.stands("laid where nobody sits", SOME_SIT, x -> x.coat(28, 1), 1);
        Desk.stands("laid in minute 9999", AT_LAST, x -> x.coat(28, 1), 1);
        Desk.stands("taken in minute 9999", AT_LAST, x -> x.coat(8, 0), 1);
        Desk.stands("no minute goes by", SOME_SIT, x -> x.coat(28, 1) + x.count(3), 7);
    }

    private static void undo() {
        Desk.part("promise 13");
        no("a new object's", UsherRows::new, x -> x.undo());
        no("behind a row told", () -> behind(x -> x.row(1, 2)), x -> x.undo());
        no("behind a soul", () -> behind(x -> x.soul(0, 0)), x -> x.undo());
        no("behind a hall", () -> behind(x -> x.hall()), x -> x.undo());
        no("behind a hall read", () -> behind(x -> x.read()), x -> x.undo());
        no("behind all that was", () -> behind(x -> x.undo() + x.undo()), x -> x.undo());
        Desk.stands("behind a row refused", () -> behind(x -> x.row(1, 6)), x -> x.undo(), 2);
        Desk.stands("behind a soul refused", () -> behind(x -> x.soul(0, 30)), x -> x.undo(), 2);
        Desk.stands("behind a text refused", () -> behind(x -> x.type(33) + x.read()), x -> x.undo(), 2);
        Desk.stands("the first", () -> behind(x -> x.undo()), x -> x.undo(), 0);
        Desk.stands("in minute 9999", AT_LAST, x -> x.undo(), 9906);
    }

    private static UsherRows behind(Desk.Call call) {
        UsherRows x = Desk.out(6);
        call.on(x);
        return x;
    }

    private static void whoSits() {
        Desk.part("promise 16");
        no("makes of one who sits", SOME_SIT, x -> x.makes(0, 3));
        no("makes of one who sits, to its own cell", SOME_SIT, x -> x.makes(3, 12));
        Desk.stands("makes of the next one", SOME_SIT, x -> x.makes(4, 3), 2);
        Desk.part("promise 18");
        Desk.refused("best cell of one who sits", SOME_SIT, x -> x.best(0, 0), -1002, Desk.NO);
        Desk.refused("best sight of one who sits", SOME_SIT, x -> x.best(3, 1), -1002, Desk.NO);
        Desk.part("promise 19");
        no("a sits", SOME_SIT, x -> x.beside(3, 4, 0));
        no("b sits", SOME_SIT, x -> x.beside(4, 3, 1));
        no("both sit", SOME_SIT, x -> x.beside(0, 3, 0));
        Desk.stands("neither sits", SOME_SIT, x -> x.beside(4, 5, 0), 1);
        Desk.part("promise 33");
        no("wet stub of one who sits", SOME_SIT, x -> x.wet(3, 0));
        Desk.stands("wet stub of the next one", SOME_SIT, x -> x.wet(4, 0), 1);
    }

    private static void from() {
        Desk.part("promise 37");
        no("none kept, 0", UsherRows::new, x -> x.from(0));
        no("none kept, 1", UsherRows::new, x -> x.from(1));
        no("0 alone kept", SOME_SIT, x -> x.from(1));
        Desk.Maker oneKept = () -> {
            UsherRows x = new UsherRows();
            x.image(1);
            x.soul(0, 0);
            return x;
        };
        no("1 alone kept", oneKept, x -> x.from(0));
        Desk.stands("0 kept", SOME_SIT, x -> x.from(0), 1);
    }

    private static void full() {
        Desk.part("promise 4");
        full("an eighth soul", () -> Desk.out(7), x -> x.soul(0, 0));
        Desk.stands("a seventh soul", () -> Desk.out(6), x -> x.soul(0, 0), 6);
        Desk.part("promise 5");
        full("byte 151", () -> bytes(150), x -> x.type(59));
        Desk.stands("byte 150", () -> bytes(149), x -> x.type(59), 150);
        Desk.part("promise 22");
        full("a sixth seen", () -> clues(5, 6, 6), x -> x.seen(0, 0, 0));
        Desk.stands("a fifth seen", () -> clues(4, 6, 6), x -> x.seen(0, 0, 0), 5);
        Desk.part("promise 25");
        full("a seventh note", () -> clues(5, 6, 6), x -> x.note(0, 0, 0));
        Desk.stands("a sixth note", () -> clues(5, 5, 6), x -> x.note(0, 0, 0), 6);
        Desk.part("promise 26");
        full("a seventh mark", () -> clues(5, 6, 6), x -> x.mark(0, 0, 0, 0));
        Desk.stands("a sixth mark", () -> clues(5, 6, 5), x -> x.mark(0, 0, 0, 0), 6);
    }

    /** A text that reads as one item, with blanks behind it up to so many bytes. */
    private static UsherRows bytes(int length) {
        UsherRows x = new UsherRows();
        Desk.type(x, "hall 1 2 3 4 5;");
        for (int n = 15; n < length; n++) {
            x.type(32);
        }
        return x;
    }

    private static UsherRows clues(int seen, int notes, int marks) {
        UsherRows x = Desk.out(2);
        for (int n = 1; n < seen; n++) {
            x.seen(0, n, n);
        }
        for (int n = 1; n < notes; n++) {
            x.note(4, n - 1, n);
        }
        for (int n = 1; n < marks; n++) {
            x.mark(0, n - 1, n, n);
        }
        return x;
    }

    private static void badComesFirst() {
        Desk.part("BAD ahead of NO");
        bad("shows: no soul, a coat", SOME_SIT, x -> x.shows(7, 8));
        bad("shows: no cell, it sits", SOME_SIT, x -> x.shows(0, 30));
        bad("moves: no soul, a coat", SOME_SIT, x -> x.moves(-1, 8));
        bad("moves: no cell, it is out", SOME_SIT, x -> x.moves(4, -1));
        bad("coat: neither laid nor taken, one lies", SOME_SIT, x -> x.coat(8, 2));
        bad("coat: neither laid nor taken, somebody sits", SOME_SIT, x -> x.coat(0, -1));
        bad("makes: no cell, it sits", SOME_SIT, x -> x.makes(0, 30));
        Desk.refused("best: neither, it sits", SOME_SIT, x -> x.best(0, 2), -1001, Desk.BAD);
        bad("beside: alike, it sits", SOME_SIT, x -> x.beside(0, 0, 0));
        bad("beside: neither, both sit", SOME_SIT, x -> x.beside(0, 1, 2));
        bad("beside: no second soul, the first sits", SOME_SIT, x -> x.beside(0, 7, 0));
        bad("beside: no first soul, the second sits", SOME_SIT, x -> x.beside(7, 0, 0));
        bad("wet: too wet, it sits", SOME_SIT, x -> x.wet(0, 11));
        bad("from: no such image, none kept", UsherRows::new, x -> x.from(2));
    }

    private static void badComesFirstAtLast() {
        Desk.part("BAD ahead of NO, minute 9999");
        bad("shows: no soul", AT_LAST, x -> x.shows(7, 3));
        bad("shows: no cell", AT_LAST, x -> x.shows(4, 30));
        bad("moves: no soul", AT_LAST, x -> x.moves(7, 3));
        bad("moves: no cell", AT_LAST, x -> x.moves(0, 30));
        bad("sends: no soul", AT_LAST, x -> x.sends(7));
        bad("minutes: none", AT_LAST, x -> x.minutes(0));
        bad("minutes: a hundred", AT_LAST, x -> x.minutes(100));
    }

    private static void badComesBeforeFull() {
        Desk.part("BAD ahead of FULL");
        bad("soul: no kind", () -> Desk.out(7), x -> x.soul(6, 0));
        bad("soul: no cell", () -> Desk.out(7), x -> x.soul(0, 30));
        bad("type: no byte", () -> bytes(150), x -> x.type(128));
        bad("type: below 0", () -> bytes(150), x -> x.type(-1));
        bad("seen: no soul", () -> clues(5, 6, 6), x -> x.seen(2, 0, 0));
        bad("seen: no minute", () -> clues(5, 6, 6), x -> x.seen(0, 100, 0));
        bad("seen: no fuss", () -> clues(5, 6, 6), x -> x.seen(0, 0, 41));
        bad("note: no row", () -> clues(5, 6, 6), x -> x.note(5, 0, 0));
        bad("note: no seat", () -> clues(5, 6, 6), x -> x.note(0, 6, 0));
        bad("note: no sight", () -> clues(5, 6, 6), x -> x.note(0, 0, 21));
        bad("mark: no soul", () -> clues(5, 6, 6), x -> x.mark(2, 0, 0, 0));
        bad("mark: no knees", () -> clues(5, 6, 6), x -> x.mark(0, 6, 0, 0));
        bad("mark: no minute", () -> clues(5, 6, 6), x -> x.mark(0, 0, 100, 0));
        bad("mark: no fuss", () -> clues(5, 6, 6), x -> x.mark(0, 0, 0, 41));
    }

    /** "None" and "not so many" are answers, and so is a FAULT: STATUS does not count them. */
    private static void notRefused() {
        Desk.part("not refused");
        Desk.Maker kept = () -> {
            UsherRows x = Desk.told("hall 0 0 0 0 0;soul 0 0;soul 0 1;");
            for (int c = 0; c < 30; c++) {
                x.coat(c, 1);
            }
            x.note(0, 0, 20);
            x.mark(0, 0, 0, 40);
            x.clear();
            return x;
        };
        Desk.looks("best: no cell", kept, x -> x.best(0, 0), -1);
        Desk.looks("best: how much of none", kept, x -> x.best(0, 1), -1000);
        Desk.looks("beside: how much of none", kept, x -> x.beside(0, 1, 0), -1);
        Desk.looks("beside: nowhere", kept, x -> x.beside(0, 1, 1), -1);
        Desk.looks("tell: no cell", kept, x -> x.tell(0), -1);
        Desk.looks("where: none", kept, x -> x.where(0, -1), 0);
        Desk.looks("where: not so many", kept, x -> x.where(0, 0), -5);
        Desk.looks("order: none", kept, x -> x.order(-1), 0);
        Desk.looks("order: not so many", kept, x -> x.order(0), -5);
        Desk.looks("is: none", kept, x -> x.is(0), 0);
        Desk.looks("look: none", kept, x -> x.look(0), -1);
        Desk.looks("kinds: none", kept, x -> x.kinds(0), 0);
        Desk.looks("ask: none", kept, x -> x.ask(0), -1);
        Desk.looks("of: out", kept, x -> x.of(0, 2), -1);
        Desk.looks("about: nobody", kept, x -> x.about(0, 1), -1);
        Desk.looks("read: an empty text", kept, x -> x.read(), -10);
    }

    private static void statusCounts() {
        Desk.part("promise 38");
        UsherRows x = new UsherRows();
        int[][] due = {{1, 0, 0}, {1, 1, 0}, {1, 1, 1}};
        x.row(5, 0);
        sameStatus("one BAD", x, due[0]);
        x.undo();
        sameStatus("one NO", x, due[1]);
        for (int n = 0; n < 8; n++) {
            x.soul(0, 0);
        }
        sameStatus("one FULL", x, due[2]);
        for (int n = 1; n <= 100; n++) {
            x.forget(3);
            Desk.due("a hundred more BAD", x.status(0), 1 + n);
        }
        for (int n = 1; n <= 100; n++) {
            x.from(0);
            Desk.due("a hundred more NO", x.status(1), 1 + n);
        }
        Desk.due("status(3)", x.status(3), -1);
        Desk.due("status(-1)", x.status(-1), -1);
        sameStatus("another what counts as BAD", x, new int[] {103, 101, 1});
    }

    private static void statusStays() {
        Desk.part("promise 38");
        UsherRows x = Desk.out(7);
        x.soul(0, 0);
        int[] due = {1, 1, 1};
        sameStatus("each once", x, due);
        x.image(1);
        sameStatus("behind an image", x, due);
        x.from(0);
        sameStatus("behind from", x, due);
        x.undo();
        sameStatus("behind undo", x, due);
        x.read();
        sameStatus("behind read", x, due);
        x.hall();
        sameStatus("behind hall", x, due);
        x.clear();
        sameStatus("behind clear", x, due);
        x.digest();
        sameStatus("behind digest", x, due);
    }

    private static void sameStatus(String what, UsherRows x, int[] due) {
        int[] got = Desk.status(x);
        for (int reason = 0; reason < 3; reason++) {
            Desk.due("status(" + reason + "), " + what, got[reason], due[reason]);
        }
    }
}
