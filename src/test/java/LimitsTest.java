/** The hall at its limits: none and full, the first and the last, minutes 9 and 10, 9998 and 9999, eight to undo. */
public final class LimitsTest {
    public static void main(String[] args) {
        newObject();
        hall();
        rowsOfCells();
        kneesOfARow();
        sights();
        soulsAsTheyCome();
        fussByKnees();
        fussOfMoving();
        minutesGoBy();
        lastMinutes();
        coatsEverywhere();
        undoOfEach();
        undoEight();
        undoLeaves();
        images();
        imagesKeepUndo();
        fraction();
        counts();
        digestOfNone();
        digestOfAll();
        digestOfEach();
        Desk.end();
    }

    private static void newObject() {
        Desk.part("promise 1");
        for (int what = 0; what < 10; what++) {
            int number = what;
            Desk.looks("count(" + what + ")", UsherRows::new, x -> x.count(number), 0);
        }
        for (int c = 0; c < 30; c++) {
            int cell = c;
            Desk.looks("kind of the row of " + c, UsherRows::new, x -> x.about(cell, 0), 0);
            Desk.looks("who in " + c, UsherRows::new, x -> x.about(cell, 1), -1);
            Desk.looks("coat on " + c, UsherRows::new, x -> x.about(cell, 2), 0);
            Desk.looks("knees to " + c, UsherRows::new, x -> x.about(cell, 3), 0);
            Desk.looks("sight from " + c, UsherRows::new, x -> x.about(cell, 4), Desk.SIGHTS[0][c % 6]);
        }
        Desk.looks("above", UsherRows::new, x -> x.part(0), 0);
        Desk.looks("below", UsherRows::new, x -> x.part(1), 1);
        Desk.looks("wrong", UsherRows::new, x -> x.wrong(), 0);
        Desk.looks("swaps", UsherRows::new, x -> x.swaps(), 0);
        Desk.looks("order, how much", UsherRows::new, x -> x.order(-1), 0);
        Desk.looks("order, who first", UsherRows::new, x -> x.order(0), -5);
        Desk.looks("evenings", UsherRows::new, x -> x.evenings(999999, 60), 0);
        Desk.looks("hall", UsherRows::new, x -> x.hall(), 0);
        Desk.looks("clear", UsherRows::new, x -> x.clear(), 0);
        Desk.looks("forget", UsherRows::new, x -> x.forget(0) + x.forget(1) + x.forget(2), 0);
        Desk.looks("read", UsherRows::new, x -> x.read(), -10);
        Desk.looks("is", UsherRows::new, x -> x.is(0), 63);
        Desk.looks("look", UsherRows::new, x -> x.look(0), 0);
        Desk.looks("status", UsherRows::new, x -> x.status(0) + x.status(1) + x.status(2), 0);
    }

    private static void hall() {
        Desk.part("promise 2");
        for (int souls = 0; souls <= 7; souls++) {
            int many = souls;
            Desk.stands("of so many souls", () -> Desk.out(many), x -> x.hall(), souls);
        }
        UsherRows x = Desk.inMinute(Desk.sitting(7), 9999);
        int[] status = Desk.status(x);
        Desk.due("hall", x.hall(), 7);
        for (int what = 0; what < 9; what++) {
            Desk.due("count(" + what + ")", x.count(what), 0);
        }
        for (int c = 0; c < 30; c += 5) {
            Desk.due("row of " + c, x.about(c, 0), 0);
            Desk.due("who in " + c, x.about(c, 1), -1);
        }
        Desk.due("coat on 8", x.about(8, 2), 0);
        Desk.due("the text", x.count(9), 31);
        Desk.due("the fraction", x.part(0) * 10 + x.part(1), 21);
        for (int reason = 0; reason < 3; reason++) {
            Desk.due("status(" + reason + ")", x.status(reason), status[reason]);
        }
        Desk.due("hall again", x.hall(), 0);
        Desk.due("the first soul", x.soul(0, 0), 0);
        Desk.due("the image", x.from(0), 1);
        Desk.due("its souls", x.count(0), 7);
        Desk.due("the text reads", x.read(), 3);
    }

    private static void rowsOfCells() {
        Desk.part("promises 3, 15");
        UsherRows x = new UsherRows();
        for (int r = 0; r < 5; r++) {
            Desk.due("row " + r + " was plain", x.row(r, 5 - r), 0);
        }
        for (int c = 0; c < 30; c++) {
            Desk.due("kind of the row of " + c, x.about(c, 0), 5 - c / 6);
        }
        for (int kind = 0; kind < 6; kind++) {
            Desk.due("row 2 was", x.row(2, kind), kind == 0 ? 3 : kind - 1);
            Desk.due("row 2 is", x.about(12, 0) * 10 + x.about(17, 0), kind * 11);
            Desk.due("row 1 stays", x.about(11, 0), 4);
            Desk.due("row 3 stays", x.about(18, 0), 2);
        }
    }

    /** All six seats of each row in turn: knees are those in lesser seats, of this row alone. */
    private static void kneesOfARow() {
        Desk.part("promise 15, knees");
        for (int r = 0; r < 5; r++) {
            UsherRows x = new UsherRows();
            for (int s = 5; s >= 0; s--) {
                x.soul(0, 0);
                Desk.due("past nobody", x.shows(5 - s, 6 * r + s), 0);
            }
            for (int c = 0; c < 30; c++) {
                Desk.due("row " + r + ", knees to " + c, x.about(c, 3), c / 6 == r ? c % 6 : 0);
                Desk.due("row " + r + ", who in " + c, x.about(c, 1), c / 6 == r ? 5 - c % 6 : -1);
            }
        }
        UsherRows x = Desk.told("hall 0 0 0 0 0;soul 0 0;sit 0 9;coat 6;coat 8;");
        int[] knees = {0, 0, 0, 0, 1, 1};
        for (int s = 0; s < 6; s++) {
            Desk.due("coats have no knees, seat " + s, x.about(6 + s, 3), knees[s]);
        }
    }

    private static void sights() {
        Desk.part("promise 15, sights");
        for (int r = 0; r < 5; r++) {
            for (int kind = 0; kind < 6; kind++) {
                UsherRows x = new UsherRows();
                x.row(r, kind);
                for (int s = 0; s < 6; s++) {
                    Desk.due("kind " + kind + ", seat " + s, x.about(6 * r + s, 4), Desk.SIGHTS[kind][s]);
                }
            }
        }
    }

    private static void soulsAsTheyCome() {
        Desk.part("promise 4");
        UsherRows x = new UsherRows();
        x.coat(7, 1);
        int[] stubs = {0, 29, 7, 7, 5, 6, 0};
        for (int i = 0; i < 7; i++) {
            x.minutes(1);
            Desk.due("soul " + i, x.soul(5 - i % 6, stubs[i]), i);
            Desk.due("souls", x.count(0), i + 1);
            Desk.due("nothing to undo", x.count(8), 0);
        }
        Desk.due("an eighth", x.soul(0, 0), -4);
        for (int i = 0; i < 7; i++) {
            Desk.due("kind of " + i, x.of(i, 0), 5 - i % 6);
            Desk.due("stub of " + i, x.of(i, 1), stubs[i]);
            Desk.due("cell of " + i, x.of(i, 2), -1);
        }
        Desk.due("nobody sits", x.count(1), 0);
        Desk.due("the minute stays", x.count(3), 7);
    }

    private static void fussByKnees() {
        int[] minutes = {7, 9, 10, 11, 9998};
        for (int kind = 0; kind < 6; kind++) {
            Desk.part("promises 8, 10, 16, kind " + kind);
            for (int k = 0; k < 6; k++) {
                for (int minute : minutes) {
                    shownPast(kind, k, minute);
                    sentPast(kind, k, minute);
                }
            }
        }
    }

    private static void shownPast(int kind, int k, int minute) {
        int due = Desk.fuss(kind, k, minute);
        UsherRows x = Desk.inMinute(Desk.past(kind, k), minute);
        int before = x.count(4);
        Desk.due("makes past " + k + " in " + minute, x.makes(0, k), due);
        Desk.due("shows past " + k + " in " + minute, x.shows(0, k), due);
        Desk.due("fuss", x.count(4), before + due);
        Desk.due("the minute", x.count(3), minute + 1);
        Desk.due("where it is", x.of(0, 2), k);
    }

    private static void sentPast(int kind, int k, int minute) {
        int due = Desk.fuss(kind, k, minute);
        UsherRows x = Desk.past(kind, k);
        x.shows(0, k);
        Desk.inMinute(x, minute);
        int before = x.count(4);
        Desk.due("sends past " + k + " in " + minute, x.sends(0), due);
        Desk.due("fuss", x.count(4), before + due);
        Desk.due("the minute", x.count(3), minute + 1);
        Desk.due("it is out", x.of(0, 2), -1);
    }

    private static void fussOfMoving() {
        for (int kind = 0; kind < 6; kind++) {
            Desk.part("promise 9, kind " + kind);
            for (int k = 0; k < 5; k++) {
                movedPast(kind, k, 9);
                movedPast(kind, k, 10);
            }
        }
        Desk.part("promise 9");
        UsherRows x = Desk.told("hall 0 0 0 0 0;soul 0 0;soul 0 0;soul 0 0;sit 0 5;sit 1 4;sit 2 0;");
        Desk.due("from past two to past one", x.moves(0, 1), 3);
        Desk.due("from past two to past two", x.moves(1, 3), 4);
        Desk.due("from the aisle to past two", x.moves(2, 5), 2);
    }

    /** Both ways are made in the same minute; one who goes farther in does not pass its own knees. */
    private static void movedPast(int kind, int k, int minute) {
        UsherRows x = Desk.past(kind, k);
        x.shows(0, k);
        Desk.inMinute(x, minute);
        int before = x.count(4);
        int farther = 2 * Desk.fuss(kind, k, minute);
        Desk.due("past " + k + " and in again in " + minute, x.moves(0, 5), farther);
        Desk.due("fuss", x.count(4), before + farther);
        Desk.due("the minute", x.count(3), minute + 1);
        Desk.due("where it is", x.of(0, 2), 5);
        x.undo();
        int away = Desk.fuss(kind, k, minute) + Desk.fuss(kind, 0, minute);
        Desk.due("past " + k + " and to another row in " + minute, x.moves(0, 29), away);
        Desk.due("fuss", x.count(4), before + away);
        Desk.due("the minute", x.count(3), minute + 1);
    }

    private static void minutesGoBy() {
        Desk.part("promise 12");
        UsherRows x = new UsherRows();
        Desk.due("minutes(1)", x.minutes(1), 1);
        Desk.due("minutes(99)", x.minutes(99), 100);
        Desk.due("the minute", x.count(3), 100);
        Desk.due("each together one", x.count(8), 2);
        Desk.due("no fuss", x.count(4), 0);
        Desk.due("undone together", x.undo(), 1);
        Desk.due("undone", x.undo(), 0);
    }

    private static UsherRows at(int minute) {
        return Desk.inMinute(new UsherRows(), minute);
    }

    private static void lastMinutes() {
        Desk.part("promise 12, the last minutes");
        Desk.stands("9899 and 99", () -> at(9899), x -> x.minutes(99), 9998);
        Desk.stands("9900 and 99", () -> at(9900), x -> x.minutes(99), 9999);
        Desk.stands("9901 and 99", () -> at(9901), x -> x.minutes(99), 9999);
        Desk.stands("9998 and 1", () -> at(9998), x -> x.minutes(1), 9999);
        Desk.stands("9998 and 2", () -> at(9998), x -> x.minutes(2), 9999);
        Desk.stands("9999 and 1", () -> at(9999), x -> x.minutes(1), 9999);
        Desk.stands("9999 and 99", () -> at(9999), x -> x.minutes(99), 9999);
        Desk.stands("the minute then", () -> at(9999), x -> x.minutes(99) + x.count(3), 2 * 9999);
        Desk.stands("undone to 9998", () -> at(9998), x -> x.minutes(99) + x.undo(), 9999 + 9998);
        Desk.stands("undone to 9999", () -> at(9999), x -> x.minutes(99) + x.undo(), 2 * 9999);
        Desk.stands("it is one that may be undone", () -> at(99), x -> x.minutes(1) + x.count(8), 102);
        Desk.stands("in 9999, too", () -> {
            UsherRows x = at(9999);
            x.row(0, 0);
            return x;
        }, x -> x.minutes(1) + x.count(8), 10000);
        Desk.stands("a hall begins anew", () -> at(9999), x -> x.hall() + x.count(3), 0);
        Desk.stands("a row may be told", () -> at(9999), x -> x.row(4, 5) + x.count(3), 9999);
        Desk.stands("a soul may come", () -> at(9999), x -> x.soul(4, 5) + x.count(3), 9999);
    }

    private static void coatsEverywhere() {
        Desk.part("promise 11");
        UsherRows x = new UsherRows();
        for (int c = 0; c < 30; c++) {
            Desk.due("laid on " + c, x.coat(c, 1), 1);
            Desk.due("it lies on " + c, x.about(c, 2), 1);
            Desk.due("coats", x.count(2), c + 1);
            Desk.due("laid again on " + c, x.coat(c, 1), -3);
        }
        Desk.due("no minute", x.count(3), 0);
        Desk.due("no fuss", x.count(4), 0);
        for (int c = 0; c < 30; c++) {
            Desk.due("taken from " + c, x.coat(c, 0), 1);
            Desk.due("none on " + c, x.about(c, 2), 0);
            Desk.due("coats", x.count(2), 29 - c);
            Desk.due("taken again from " + c, x.coat(c, 0), -3);
        }
    }

    /** Each that may be undone: behind it one more may be, and undone all is as ahead of it. */
    private static void undoOfEach() {
        Desk.part("promise 13");
        undone("showing in", x -> x.shows(4, 18));
        undone("moving", x -> x.moves(1, 1));
        undone("sending out", x -> x.sends(1));
        undone("a coat laid", x -> x.coat(28, 1));
        undone("a coat taken", x -> x.coat(8, 0));
        undone("a minute", x -> x.minutes(1));
        undone("minutes", x -> x.minutes(99));
        UsherRows x = Desk.out(7);
        Desk.due("two may be", x.count(8), 2);
        Desk.due("the last", x.undo(), 2);
        Desk.due("one may be", x.count(8), 1);
        Desk.due("the one ahead of it", x.undo(), 0);
        Desk.due("none may be", x.count(8), 0);
        Desk.due("none", x.undo(), -3);
        Desk.due("none may be", x.count(8), 0);
    }

    private static void undone(String what, Desk.Call call) {
        Desk.Maker maker = () -> Desk.sitting(4);
        Desk.looks(what + " undone", maker, x -> {
            call.on(x);
            return x.undo();
        }, 6);
        UsherRows x = maker.make();
        int before = x.count(8);
        call.on(x);
        Desk.due(what + " may be", x.count(8), before + 1);
    }

    private static void undoEight() {
        Desk.part("promise 13, eight");
        UsherRows x = new UsherRows();
        for (int n = 1; n <= 12; n++) {
            x.minutes(n);
            Desk.due("how many may be", x.count(8), Math.min(8, n));
        }
        for (int n = 12; n >= 5; n--) {
            Desk.due("back ahead of the minutes " + n, x.undo(), n * (n - 1) / 2);
            Desk.due("how many may be", x.count(8), n - 5);
        }
        Desk.due("no more", x.undo(), -3);
        Desk.due("the minute", x.count(3), 10);
        // All kinds of them, the first of nine forgotten.
        x = Desk.told("hall 0 0 0 0 0;soul 1 0;");
        x.coat(1, 1);
        x.coat(2, 1);
        x.shows(0, 0);
        x.moves(0, 3);
        x.sends(0);
        x.minutes(9);
        x.coat(1, 0);
        x.shows(0, 1);
        Desk.due("eight", x.count(8), 8);
        x.coat(29, 1);
        Desk.due("eight", x.count(8), 8);
        int[] minutes = {13, 12, 12, 3, 2, 1, 0, 0};
        int[] fuss = {10, 8, 8, 8, 6, 2, 0, 0};
        int[] coats = {1, 1, 2, 2, 2, 2, 2, 1};
        int[] cells = {1, -1, -1, -1, 3, 0, -1, -1};
        for (int n = 0; n < 8; n++) {
            Desk.due("undo " + n, x.undo(), minutes[n]);
            Desk.due("fuss behind undo " + n, x.count(4), fuss[n]);
            Desk.due("coats behind undo " + n, x.count(2), coats[n]);
            Desk.due("cell behind undo " + n, x.of(0, 2), cells[n]);
        }
        Desk.due("no more", x.undo(), -3);
        Desk.due("the first coat lies", x.about(1, 2), 1);
        Desk.due("anew", x.minutes(5) + x.count(8), 6);
    }

    private static void undoLeaves() {
        Desk.part("promise 13, what stays");
        UsherRows x = Desk.out(3);
        x.minutes(1);
        x.seen(0, 1, 1);
        x.note(0, 1, 1);
        x.mark(0, 1, 1, 1);
        x.shows(1, 29);
        x.shows(2, 5);
        x.shows(0, 0);
        x.sends(0);
        x.wet(0, 3);
        x.type(32);
        x.undo();
        Desk.due("seen", x.count(5), 2);
        Desk.due("notes", x.count(6), 2);
        Desk.due("marks", x.count(7), 2);
        Desk.due("bytes", x.count(9), 32);
        Desk.due("the fraction", x.part(0) * 10 + x.part(1), 1);
        Desk.due("rows", x.about(29, 0), 5);
        Desk.due("souls", x.count(0), 3);
    }

    private static void images() {
        Desk.part("promises 36, 37");
        UsherRows x = Desk.sitting(7);
        long seven = x.digest();
        x.image(1);
        x.sends(0);
        x.row(4, 0);
        x.forget(0);
        x.forget(1);
        x.forget(2);
        x.coat(8, 0);
        long later = x.digest();
        Desk.due("image(0) anew", x.image(0), 1);
        x.hall();
        Desk.due("from(1)", x.from(1), 1);
        Desk.due("as it was", x.digest(), seven);
        Desk.due("from(0)", x.from(0), 1);
        Desk.due("as it was later", x.digest(), later);
        x.soul(0, 0);
        x.minutes(50);
        x.coat(20, 1);
        x.shows(0, 1);
        Desk.due("from(0) again", x.from(0), 1);
        Desk.due("the image is not changed", x.digest(), later);
        x.image(1);
        x.hall();
        x.from(1);
        Desk.due("an image of an image", x.digest(), later);
        x.type(32);
        x.wet(0, 0);
        x.from(1);
        Desk.due("the text is not kept", x.count(9), 32);
        Desk.due("nor is the fraction", x.part(0) * 10 + x.part(1), 1);
        x.undo();
        x.undo();
        Desk.due("nor is status", x.from(1) + x.status(1), 3);
        x = new UsherRows();
        Desk.due("an image of nothing", x.image(0), 1);
        x.soul(1, 1);
        Desk.due("from it", x.from(0), 1);
        Desk.due("nobody is there", x.count(0), 0);
        Desk.due("the other is not kept", x.from(1), -3);
    }

    private static void imagesKeepUndo() {
        Desk.part("promises 36, 37, what may be undone");
        UsherRows x = new UsherRows();
        x.soul(1, 0);
        for (int n = 1; n <= 8; n++) {
            x.minutes(n);
        }
        x.image(0);
        x.row(0, 0);
        Desk.due("none behind a row", x.undo(), -3);
        x.from(0);
        Desk.due("eight of the image", x.count(8), 8);
        x.minutes(9);
        Desk.due("eight", x.count(8), 8);
        for (int n = 9; n >= 2; n--) {
            Desk.due("undo", x.undo(), n * (n - 1) / 2);
        }
        Desk.due("no more", x.undo(), -3);
        x.from(0);
        for (int n = 8; n >= 1; n--) {
            Desk.due("undo from the image again", x.undo(), n * (n - 1) / 2);
        }
        Desk.due("no more", x.undo(), -3);
        x.image(1);
        x.minutes(4);
        x.from(1);
        Desk.due("an image with none", x.undo(), -3);
        x.from(0);
        x.hall();
        x.image(1);
        Desk.due("the images are two", x.from(0) + x.count(3), 37);
    }

    private static void fraction() {
        Desk.part("promises 33, 35");
        UsherRows x = new UsherRows();
        Desk.due("above at first", x.part(0), 0);
        Desk.due("below at first", x.part(1), 1);
        x = Desk.out(7);
        x.wet(7, 0);
        x.wet(0, 11);
        x.shows(1, 29);
        x.wet(1, 0);
        Desk.due("refused ones leave it", x.part(0) * 10 + x.part(1), 21);
        x.hall();
        x.read();
        x.image(1);
        x.from(1);
        x.clear();
        Desk.due("a new hall leaves it", x.part(0) * 10 + x.part(1), 21);
    }

    private static void counts() {
        Desk.part("promise 39");
        UsherRows x = Desk.sitting(7);
        for (int n = 0; n < 6; n++) {
            x.seen(n, n, n);
            x.note(0, n, n);
            x.mark(n, n, n, n);
        }
        for (int n = 0; n < 120; n++) {
            x.type(32);
        }
        long[] due = {7, 7, 2, 9, 4, 5, 6, 6, 8, 150};
        // Row 0: nobody, then the late one past one (1); row 4: a restless one past nobody (2), a moon past nobody;
        // a bishop past nobody, a couple past nobody (1), a plain one past nobody.
        for (int what = 0; what < 10; what++) {
            Desk.due("count(" + what + ")", x.count(what), due[what]);
        }
        Desk.inMinute(x, 9999);
        Desk.due("the last minute", x.count(3), 9999);
        x.hall();
        for (int c = 0; c < 30; c++) {
            x.coat(c, 1);
        }
        Desk.due("thirty coats", x.count(2), 30);
    }

    private static long mix(long... values) {
        long h = 1699;
        for (long v : values) {
            h = 31 * h + v;
        }
        return h;
    }

    private static void digestOfNone() {
        Desk.part("promise 40");
        Desk.looks("of a new object", UsherRows::new, x -> x.digest(), mix(0, 0, 0, 0, 0, 0, 0, 0, 0, 0, 0, 0, 0, 0, 0, 0, 0, 1));
        UsherRows x = new UsherRows();
        x.row(9, 9);
        x.undo();
        x.image(0);
        Desk.due("status and images are not in it", x.digest(), mix(0, 0, 0, 0, 0, 0, 0, 0, 0, 0, 0, 0, 0, 0, 0, 0, 0, 1));
    }

    private static void digestOfAll() {
        Desk.part("promise 40, full");
        UsherRows x = Desk.told("hall 5 4 3 2 1;soul 0 0;soul 1 29;soul 2 5;soul 3 12;soul 4 18;soul 5 24;soul 0 6;"
            + "coat 29;sit 6 28;sit 0 1;");
        for (int n = 0; n < 5; n++) {
            x.seen(n + 2, 95 + n, 36 + n);
        }
        for (int n = 0; n < 6; n++) {
            x.note(n % 5, n, 15 + n);
            x.mark(6 - n, n, 99 - n, 40 - n);
        }
        x.coat(0, 1);
        x.minutes(99);
        x.minutes(99);
        x.wet(2, 0);
        x.type(32);
        // The late one goes past one knee in minute 200: 2.
        Desk.due("digest", x.digest(), mix(7, 2, 2, 200, 0, 5, 6, 6, 3, 108,
            5, 4, 3, 2, 1,
            (1L << 29) + 1,
            0, 0, 1, 1, 29, -1, 2, 5, -1, 3, 12, -1, 4, 18, -1, 5, 24, -1, 0, 6, 28,
            2, 95, 36, 3, 96, 37, 4, 97, 38, 5, 98, 39, 6, 99, 40,
            0, 0, 15, 1, 1, 16, 2, 2, 17, 3, 3, 18, 4, 4, 19, 0, 5, 20,
            6, 0, 99, 40, 5, 1, 98, 39, 4, 2, 97, 38, 3, 3, 96, 37, 2, 4, 95, 36, 1, 5, 94, 35,
            2, 1));
        x.forget(0);
        x.forget(2);
        Desk.due("what is forgotten is not in it", x.digest(), mix(7, 2, 2, 200, 0, 0, 6, 0, 3, 108,
            5, 4, 3, 2, 1,
            (1L << 29) + 1,
            0, 0, 1, 1, 29, -1, 2, 5, -1, 3, 12, -1, 4, 18, -1, 5, 24, -1, 0, 6, 28,
            0, 0, 15, 1, 1, 16, 2, 2, 17, 3, 3, 18, 4, 4, 19, 0, 5, 20,
            2, 1));
    }

    private static void digestOfEach() {
        Desk.part("promise 40, coats");
        UsherRows x = new UsherRows();
        for (int c = 0; c < 30; c++) {
            x.coat(c, 1);
            Desk.due("coats up to " + c, x.digest(), mix(0, 0, c + 1, 0, 0, 0, 0, 0, Math.min(8, c + 1), 0, 0, 0, 0, 0, 0,
                (1L << c + 1) - 1, 0, 1));
        }
        Desk.part("promise 40, the fraction");
        x = Desk.told("hall 0 0 0 0 0;soul 0 0;soul 0 6;sit 1 6;");
        x.sends(1);
        x.shows(1, 6);
        x.wet(0, 3);
        Desk.due("0 by 1", x.digest(), mix(2, 1, 0, 3, 0, 0, 0, 0, 2, 41, 0, 0, 0, 0, 0, 0, 0, 0, -1, 0, 6, 6, 0, 1));
    }
}
