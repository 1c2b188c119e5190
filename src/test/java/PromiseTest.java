/** Each promise by small runs whose answers were worked out by hand from the document. */
public final class PromiseTest {
    private static int wrong = 0;
    private static String part = "";

    private static void due(String call, long got, long want) {
        if (got != want) {
            wrong++;
            System.out.println(part + ": " + call + " answered " + got + ", due is " + want);
        }
    }

    public static void main(String[] args) {
        newObject();
        hall();
        row();
        soul();
        typeAndClear();
        readWhole();
        readFaults();
        shows();
        moves();
        sends();
        coat();
        minutes();
        undo();
        ofAndAbout();
        sights();
        makes();
        order();
        best();
        beside();
        wrongAndSwaps();
        seenWhereTell();
        noteIsLook();
        markKindsAsk();
        forget();
        whispers();
        wetAndPart();
        evenings();
        images();
        statusAndCount();
        digest();
        lastMinute();
        System.out.println(wrong == 0 ? "all promises hold" : wrong + " answers are not as due");
        if (wrong != 0) {
            System.exit(1);
        }
    }

    private static int write(UsherRows x, String text) {
        x.clear();
        for (int n = 0; n < text.length(); n++) {
            x.type(text.charAt(n));
        }
        return x.read();
    }

    private static UsherRows told(String text) {
        UsherRows x = new UsherRows();
        int items = write(x, text);
        if (items < 1) {
            due("read of " + text, items, 1);
        }
        return x;
    }

    private static void newObject() {
        part = "promise 1";
        UsherRows x = new UsherRows();
        for (int what = 0; what < 10; what++) {
            due("count(" + what + ")", x.count(what), 0);
        }
        for (int c = 0; c < 30; c++) {
            due("kind of the row of " + c, x.about(c, 0), 0);
            due("who in " + c, x.about(c, 1), -1);
            due("coat on " + c, x.about(c, 2), 0);
        }
        due("part(0)", x.part(0), 0);
        due("part(1)", x.part(1), 1);
        due("status(0)", x.status(0), 0);
        due("status(1)", x.status(1), 0);
        due("status(2)", x.status(2), 0);
    }

    private static void hall() {
        part = "promise 2";
        UsherRows x = told("hall 1 2 3 4 5;soul 0 3;soul 1 9;coat 8;sit 0 3;");
        x.seen(0, 1, 1);
        x.note(0, 1, 1);
        x.mark(0, 1, 1, 1);
        x.minutes(3);
        x.wet(1, 0);
        x.row(9, 9);
        x.image(1);
        due("hall()", x.hall(), 2);
        for (int what = 0; what < 9; what++) {
            due("count(" + what + ")", x.count(what), 0);
        }
        due("bytes stay", x.count(9), 48);
        due("the fraction stays", x.part(0), 2);
        due("status stays", x.status(0), 1);
        due("rows are plain", x.about(29, 0), 0);
        due("hall() again", x.hall(), 0);
        due("images stay", x.from(1), 1);
        due("souls of the image", x.count(0), 2);
    }

    private static void row() {
        part = "promise 3";
        UsherRows x = new UsherRows();
        due("row(4, 5)", x.row(4, 5), 0);
        due("row(4, 3)", x.row(4, 3), 5);
        due("row(0, 0)", x.row(0, 0), 0);
        int[][] bad = {{-1, 0}, {5, 0}, {0, -1}, {0, 6}, {Integer.MIN_VALUE, Integer.MAX_VALUE}};
        for (int[] a : bad) {
            due("row", x.row(a[0], a[1]), UsherRows.BAD);
        }
        due("status(0)", x.status(0), 5);
        due("kind", x.about(24, 0), 3);
        x.minutes(1);
        x.row(7, 0);
        due("a row refused leaves what may be undone", x.count(8), 1);
        x.row(4, 3);
        due("a row told, even as it was, leaves none", x.count(8), 0);
    }

    private static void soul() {
        part = "promise 4";
        UsherRows x = new UsherRows();
        due("soul(-1, 0)", x.soul(-1, 0), UsherRows.BAD);
        due("soul(0, -1)", x.soul(0, -1), UsherRows.BAD);
        due("soul(6, 0)", x.soul(6, 0), UsherRows.BAD);
        due("soul(0, 30)", x.soul(0, 30), UsherRows.BAD);
        for (int i = 0; i < 7; i++) {
            x.minutes(1);
            due("soul " + i, x.soul(i % 6, 29 - i), i);
            due("it is out", x.of(i, 2), UsherRows.NONE);
            due("none may be undone", x.count(8), 0);
        }
        x.minutes(1);
        due("an eighth", x.soul(0, 0), UsherRows.FULL);
        due("a bad eighth", x.soul(0, 30), UsherRows.BAD);
        due("undone may be", x.count(8), 1);
        due("status(2)", x.status(2), 1);
    }

    private static void typeAndClear() {
        part = "promises 5, 6";
        UsherRows x = new UsherRows();
        due("type(-1)", x.type(-1), UsherRows.BAD);
        due("type(128)", x.type(128), UsherRows.BAD);
        due("clear()", x.clear(), 0);
        due("type(0)", x.type(0), 1);
        due("type(127)", x.type(127), 2);
        for (int n = 3; n <= 150; n++) {
            due("type(32)", x.type(32), n);
        }
        due("a byte too many", x.type(32), UsherRows.FULL);
        due("a bad byte too many", x.type(200), UsherRows.BAD);
        due("count(9)", x.count(9), 150);
        due("status(2)", x.status(2), 1);
        due("clear()", x.clear(), 150);
        due("count(9)", x.count(9), 0);
    }

    private static void readWhole() {
        part = "promise 7";
        UsherRows x = new UsherRows();
        x.soul(1, 1);
        x.minutes(7);
        x.seen(0, 0, 2);
        x.note(0, 0, 4);
        x.mark(0, 0, 0, 2);
        x.wet(0, 0);
        x.status(9);
        due("read", write(x, "hall 5 4 3 2 1;"), 1);
        int[] none = {0, 1, 2, 3, 4, 5, 6, 7, 8};
        for (int what : none) {
            due("count(" + what + ")", x.count(what), 0);
        }
        due("kind of row 0", x.about(0, 0), 5);
        due("kind of row 4", x.about(24, 0), 1);
        due("the fraction stays", x.part(0), 2);
        due("status stays", x.status(0), 1);
        due("the text stays", x.count(9), 15);
        due("read again", x.read(), 1);
        due("without a needless blank", write(x, "hall0 0 0 0 00;soul05 29;soul0 3;sit0 29;sit 1 3  ;out0;minutes10; "), 7);
        due("who sits", x.count(1), 1);
        due("minutes", x.count(3), 13);
        due("cell", x.of(1, 2), 3);
        due("none may be undone", x.undo(), UsherRows.NO);
        due("fuss", write(x, "hall 0 0 0 0 0;soul 0 0;soul 5 1;soul 2 2;minutes 9;sit 0 0;sit 1 1;sit 2 2;out 1;out 2;"), 10);
        // In minute 9 none is passed; in 10 a moon passes one (5), in 11 a late one two (4);
        // out again: the moon past one (5), the late one past the one that is left (2).
        due("fuss of all", x.count(4), 16);
        due("minute", x.count(3), 14);
        due("seven souls", write(x, "hall 0 0 0 0 0;soul 0 0;soul 0 0;soul 0 0;soul 0 0;soul 0 0;soul 0 0;soul 0 0;"), 8);
    }

    private static void fault(String text, int at) {
        UsherRows x = new UsherRows();
        x.soul(3, 7);
        x.minutes(5);
        long before = x.digest();
        due("read of '" + text + "'", write(x, text), -10 - at);
        x.clear();
        due("all stays by '" + text + "'", x.digest(), before);
        due("it is no refusal", x.status(0) + x.status(1) + x.status(2), 0);
    }

    private static void readFaults() {
        part = "promise 7, faults";
        fault("", 0);
        fault("   ", 3);
        fault("hall", 4);
        fault("hal", 0);
        fault("hall ", 5);
        fault("hall 0 0 0 0 0", 14);
        fault("hall 0 0 0 0;", 12);
        fault("hall 0 0 0 0 0 0;", 15);
        fault("hall 0 0 6 0 0;", 9);
        fault("hall 0 0 10 0 0;", 9);
        fault("hall 0 0 000 0 0;", 9);
        fault("soul 0 0;", 0);
        fault(" ;hall 0 0 0 0 0;", 1);
        fault("5", 0);
        fault("Hall 0 0 0 0 0;", 0);
        fault("hall\t0 0 0 0 0;", 4);
        fault("halla 0 0 0 0 0;", 0);
        fault("hallz 0 0 0 0 0;", 0);
        fault("tall 0 0 0 0 0;", 0);
        fault("hail 0 0 0 0 0;", 0);
        String h = "hall 0 0 0 0 0;";
        fault(h + h, 15);
        fault(h + ";", 15);
        fault(h + "  so", 17);
        fault(h + "soul", 19);
        fault(h + "soul 6 0;", 20);
        fault(h + "soul 0 30;", 22);
        fault(h + "soul 0 029;", 22);
        fault(h + "soul 0;", 21);
        fault(h + "soul 0 0 0;", 24);
        fault(h + "soul 0 0", 23);
        fault(h + "coat 30;", 20);
        fault(h + "coat 3;coat 3;", 27);
        fault(h + "sit 0 0;", 19);
        fault(h + "out 0;", 19);
        fault(h + "minutes 0;", 23);
        fault(h + "minutes 100;", 23);
        fault(h + "minutes -1;", 23);
        String s = h + "soul 0 3;soul 1 3;";
        fault(s + "sit 2 3;", 37);
        fault(s + "out 1;", 37);
        fault(s + "sit 0 3;sit 0 4;", 45);
        fault(s + "sit 0 3;sit 1 3;", 47);
        fault(s + "sit 0 3;coat 3;", 46);
        fault(s + "coat 4;sit 0 4;", 46);
        fault(s + "sit 0 30;", 39);
        fault(h + "soul 0 0;soul 0 0;soul 0 0;soul 0 0;soul 0 0;soul 0 0;soul 0 0;soul 9 99;", 78);
        fault(h + "{", 15);
        fault(h + "`", 15);
        fault(h + "coat/", 19);
        fault(h + "coat:", 19);
        fault(h + "foul 0 0;", 15);
        fault(h + "minute 5;", 15);
        UsherRows x = told(h + "soul 0 0;soul 0 0;");
        due("of an earlier text nobody is left", write(x, h + "soul 0 0;sit 1 0;"), -10 - 28);
    }

    private static void shows() {
        part = "promise 8";
        UsherRows x = told("hall 0 0 0 0 0;soul 0 0;soul 5 1;soul 1 2;soul 3 3;soul 2 4;soul 4 5;coat 29;");
        due("shows(6, 0)", x.shows(6, 0), UsherRows.BAD);
        due("shows(-1, 0)", x.shows(-1, 0), UsherRows.BAD);
        due("shows(0, 30)", x.shows(0, 30), UsherRows.BAD);
        due("shows(0, -1)", x.shows(0, -1), UsherRows.BAD);
        due("onto a coat", x.shows(0, 29), UsherRows.NO);
        due("plain past none", x.shows(0, 0), 0);
        due("it sits", x.shows(0, 1), UsherRows.NO);
        due("onto somebody", x.shows(1, 0), UsherRows.NO);
        due("moon past one", x.shows(1, 1), 4);
        due("restless past two", x.shows(2, 2), 4);
        due("bishop past three", x.shows(3, 3), 2);
        due("late past four, early", x.shows(4, 4), 4);
        due("couple past five", x.shows(5, 5), 6);
        due("fuss", x.count(4), 20);
        due("minute", x.count(3), 6);
        due("may be undone", x.count(8), 6);
        due("status(0)", x.status(0), 4);
        due("status(1)", x.status(1), 3);
        x = told("hall 0 0 0 0 0;soul 0 0;soul 5 1;soul 2 2;sit 0 0;minutes 8;");
        due("late in minute 9", x.shows(2, 2), 1);
        due("moon in minute 10", x.shows(1, 3), 7);
        due("another row is passed by none", x.count(4), 8);
        x.sends(2);
        due("late in minute 12", x.shows(2, 5), 4);
    }

    private static void moves() {
        part = "promise 9";
        UsherRows x = told("hall 0 0 0 0 0;soul 0 0;soul 1 1;soul 5 2;coat 10;sit 0 0;sit 1 2;");
        due("moves(3, 0)", x.moves(3, 0), UsherRows.BAD);
        due("moves(0, 30)", x.moves(0, 30), UsherRows.BAD);
        due("out", x.moves(2, 5), UsherRows.NO);
        due("its own", x.moves(0, 0), UsherRows.NO);
        due("another's", x.moves(0, 2), UsherRows.NO);
        due("a coat's", x.moves(0, 10), UsherRows.NO);
        // From 2 past one (3), to 5 past one, as its own knees are not there (3).
        due("moves(1, 5)", x.moves(1, 5), 6);
        due("a minute", x.count(3), 3);
        due("where it is", x.of(1, 2), 5);
        due("moves(0, 3)", x.moves(0, 3), 0);
        due("moves(1, 6)", x.moves(1, 6), 5);
        due("fuss", x.count(4), 14);
        due("status(1)", x.status(1), 4);
        x = told("hall 0 0 0 0 0;soul 0 0;soul 5 1;sit 0 0;sit 1 1;minutes 7;");
        // Both ways in minute 9: 1 and 3, and 3 of a moon, each.
        due("a moon in minute 9", x.moves(1, 2), 8);
        due("a moon in minute 10", x.moves(1, 3), 10);
    }

    private static void sends() {
        part = "promise 10";
        UsherRows x = told("hall 0 0 0 0 0;soul 0 0;soul 3 1;sit 0 0;sit 1 1;");
        due("sends(2)", x.sends(2), UsherRows.BAD);
        due("sends(-1)", x.sends(-1), UsherRows.BAD);
        due("sends(1)", x.sends(1), 1);
        due("sends(1) again", x.sends(1), UsherRows.NO);
        due("fuss", x.count(4), 2);
        due("minute", x.count(3), 3);
        due("out", x.of(1, 2), UsherRows.NONE);
        due("one sits", x.count(1), 1);
    }

    private static void coat() {
        part = "promise 11";
        UsherRows x = told("hall 0 0 0 0 0;soul 0 0;sit 0 0;");
        due("coat(30, 1)", x.coat(30, 1), UsherRows.BAD);
        due("coat(-1, 1)", x.coat(-1, 1), UsherRows.BAD);
        due("coat(1, 2)", x.coat(1, 2), UsherRows.BAD);
        due("coat(1, -1)", x.coat(1, -1), UsherRows.BAD);
        due("coat(1, 0)", x.coat(1, 0), UsherRows.NO);
        due("coat(0, 1)", x.coat(0, 1), UsherRows.NO);
        due("coat(0, 0)", x.coat(0, 0), UsherRows.NO);
        due("coat(29, 1)", x.coat(29, 1), 1);
        due("coat(29, 1) again", x.coat(29, 1), UsherRows.NO);
        due("it lies", x.about(29, 2), 1);
        due("coats", x.count(2), 1);
        due("no minute", x.count(3), 1);
        due("coat(29, 0)", x.coat(29, 0), 1);
        due("may be undone", x.count(8), 2);
        due("undo()", x.undo(), 1);
        due("it lies again", x.about(29, 2), 1);
        due("coats have no knees", x.about(29, 3), 0);
    }

    private static void minutes() {
        part = "promise 12";
        UsherRows x = new UsherRows();
        due("minutes(0)", x.minutes(0), UsherRows.BAD);
        due("minutes(100)", x.minutes(100), UsherRows.BAD);
        due("minutes(-1)", x.minutes(-1), UsherRows.BAD);
        due("minutes(1)", x.minutes(1), 1);
        due("minutes(99)", x.minutes(99), 100);
        due("together one", x.count(8), 2);
        due("undo()", x.undo(), 1);
    }

    private static void undo() {
        part = "promise 13";
        UsherRows x = new UsherRows();
        due("undo()", x.undo(), UsherRows.NO);
        x = told("hall 0 0 0 0 0;soul 1 0;soul 1 1;");
        x.minutes(5);
        x.shows(0, 0);
        x.coat(3, 1);
        x.shows(1, 2);
        x.moves(1, 4);
        x.sends(0);
        x.coat(3, 0);
        x.seen(0, 0, 2);
        due("fuss", x.count(4), 2 + 3 + 6 + 2);
        due("coat back", x.undo(), 9);
        due("coats", x.count(2), 1);
        due("soul back", x.undo(), 8);
        due("who sits in 0", x.about(0, 1), 0);
        due("fuss", x.count(4), 11);
        due("move back", x.undo(), 7);
        due("cell", x.of(1, 2), 2);
        due("fuss", x.count(4), 5);
        due("shown in back", x.undo(), 6);
        due("cell", x.of(1, 2), UsherRows.NONE);
        due("coat away", x.undo(), 6);
        due("coats", x.count(2), 0);
        due("seen ones stay", x.count(5), 1);
        due("undo()", x.undo(), 5);
        due("undo()", x.undo(), 0);
        due("fuss", x.count(4), 0);
        due("undo()", x.undo(), UsherRows.NO);
        for (int n = 1; n <= 9; n++) {
            x.minutes(n);
        }
        due("eight at most", x.count(8), 8);
        for (int n = 9; n >= 2; n--) {
            due("undo()", x.undo(), n * (n - 1) / 2);
        }
        due("the first is gone", x.undo(), UsherRows.NO);
        due("minute", x.count(3), 1);
    }

    private static void ofAndAbout() {
        part = "promises 14, 15";
        UsherRows x = told("hall 0 2 0 0 0;soul 4 28;soul 1 9;coat 11;sit 1 7;sit 0 9;");
        due("of(0, 0)", x.of(0, 0), 4);
        due("of(0, 1)", x.of(0, 1), 28);
        due("of(0, 2)", x.of(0, 2), 9);
        due("of(2, 0)", x.of(2, 0), UsherRows.BAD);
        due("of(-1, 0)", x.of(-1, 0), UsherRows.BAD);
        due("of(0, 3)", x.of(0, 3), UsherRows.BAD);
        due("of(0, -1)", x.of(0, -1), UsherRows.BAD);
        due("about(11, 0)", x.about(11, 0), 2);
        due("about(9, 1)", x.about(9, 1), 0);
        due("about(11, 1)", x.about(11, 1), UsherRows.NONE);
        due("about(11, 2)", x.about(11, 2), 1);
        due("about(9, 2)", x.about(9, 2), 0);
        due("about(7, 3)", x.about(7, 3), 0);
        due("about(9, 3)", x.about(9, 3), 1);
        due("about(11, 3)", x.about(11, 3), 2);
        due("about(12, 3)", x.about(12, 3), 0);
        due("about(17, 3)", x.about(17, 3), 0);
        due("about(11, 4)", x.about(11, 4), 8);
        due("about(30, 0)", x.about(30, 0), UsherRows.BAD);
        due("about(-1, 0)", x.about(-1, 0), UsherRows.BAD);
        due("about(0, 5)", x.about(0, 5), UsherRows.BAD);
        due("about(0, -1)", x.about(0, -1), UsherRows.BAD);
        due("status(0)", x.status(0), 8);
    }

    private static void sights() {
        part = "promise 15, sights";
        int[][] sights = {{4, 6, 8, 8, 6, 4}, {4, 6, 0, 8, 6, 4}, {8, 10, 12, 12, 10, 8},
            {2, 3, 4, 4, 3, 2}, {2, 4, 0, 6, 4, 2}, {8, 8, 8, 6, 2, 0}};
        UsherRows x = new UsherRows();
        for (int kind = 0; kind < 6; kind++) {
            x.row(3, kind);
            for (int s = 0; s < 6; s++) {
                due("kind " + kind + " from " + s, x.about(18 + s, 4), sights[kind][s]);
            }
        }
    }

    private static void makes() {
        part = "promise 16";
        int[][] early = {{0, 1, 2, 3, 4, 5}, {2, 3, 4, 5, 6, 7}, {0, 1, 2, 3, 4, 5},
            {0, 1, 1, 2, 2, 3}, {1, 2, 3, 4, 5, 6}, {0, 4, 5, 6, 7, 8}};
        int[] lateMore = {0, 0, 1, 0, 0, 1};
        for (int kind = 0; kind < 6; kind++) {
            UsherRows x = new UsherRows();
            x.soul(kind, 0);
            for (int s = 0; s < 5; s++) {
                x.soul(0, s);
                x.shows(s + 1, s);
            }
            for (int s = 0; s < 6; s++) {
                due("kind " + kind + " past " + s, x.makes(0, s), early[kind][s]);
            }
            x.minutes(4);
            due("in minute 9", x.makes(0, 5), early[kind][5]);
            x.minutes(1);
            for (int s = 0; s < 6; s++) {
                due("kind " + kind + " past " + s + ", late", x.makes(0, s), early[kind][s] + lateMore[kind] * s);
            }
            due("nothing is changed", x.count(3), 10);
            due("makes(1, 29)", x.makes(1, 29), UsherRows.NO);
            due("makes(1, 30)", x.makes(1, 30), UsherRows.BAD);
            due("makes(6, 0)", x.makes(6, 0), UsherRows.BAD);
            due("makes(-1, 0)", x.makes(-1, 0), UsherRows.BAD);
        }
    }

    private static void order() {
        part = "promise 17";
        UsherRows x = new UsherRows();
        due("order(-2)", x.order(-2), -10);
        due("order(-1)", x.order(-1), 0);
        due("order(0)", x.order(0), -5);
        due("status(0)", x.status(0), 1);
        x = told("hall 0 0 0 0 0;soul 0 2;soul 0 1;soul 0 0;soul 0 0;soul 0 7;soul 0 8;coat 7;sit 5 9;");
        // The farthest in first: 0, 1, 2; 3 has the stub of 2, 4's is under a coat, 5 sits.
        due("how much", x.order(-1), 0);
        due("order(0)", x.order(0), 0);
        due("order(1)", x.order(1), 1);
        due("order(2)", x.order(2), 2);
        due("order(3)", x.order(3), -5);
        due("order(7)", x.order(7), -5);
        due("order of very many", x.order(Integer.MAX_VALUE), -5);
        due("order of very few", x.order(Integer.MIN_VALUE), -10);
        // A restless one makes 2 whoever comes; a bishop past one makes 1: all like; then souls rise.
        x = told("hall 0 0 0 0 0;soul 1 20;soul 3 10;soul 0 0;");
        due("how much", x.order(-1), 2);
        due("order(0)", x.order(0), 0);
        due("order(1)", x.order(1), 1);
        due("order(2)", x.order(2), 2);
        // One sits in SEAT 0; in minute 9 the late one (1) makes 1, in 10 it would make 2.
        x = told("hall 0 0 0 0 0;soul 0 0;soul 0 29;soul 2 1;sit 0 0;minutes 8;");
        due("how much", x.order(-1), 1);
        due("the late one first", x.order(0), 2);
        due("then the other", x.order(1), 1);
        // A least soul of like stubs who sits does not keep the next one from coming.
        x = told("hall 0 0 0 0 0;soul 0 5;soul 0 5;sit 0 6;");
        due("the one who is out", x.order(0), 1);
    }

    private static void best() {
        part = "promise 18";
        UsherRows x = told("hall 0 0 0 2 0;soul 0 0;soul 5 0;sit 1 20;");
        due("best(2, 0)", x.best(2, 0), -1001);
        due("best(0, 2)", x.best(0, 2), -1001);
        due("best(0, -1)", x.best(0, -1), -1001);
        due("best(1, 0)", x.best(1, 0), -1002);
        due("past one to a good seat", x.best(0, 0), 21);
        due("how much", x.best(0, 1), 11);
        due("status(0)", x.status(0), 3);
        due("status(1)", x.status(1), 1);
        x.coat(21, 1);
        due("of like ones the least", x.best(0, 0), 19);
        due("how much", x.best(0, 1), 10);
        for (int c = 0; c < 29; c++) {
            x.coat(c, 1);
        }
        due("the last one", x.best(0, 0), 29);
        x.coat(29, 1);
        due("none", x.best(0, 0), UsherRows.NONE);
        due("how much of none", x.best(0, 1), -1000);
        x = told("hall 5 5 5 5 5;soul 1 0;");
        for (int c = 0; c < 29; c++) {
            x.coat(c, 1);
        }
        due("below 0", x.best(0, 1), -2);
        due("its cell", x.best(0, 0), 29);
    }

    private static void beside() {
        part = "promise 19";
        UsherRows x = told("hall 0 0 0 0 0;soul 0 0;soul 3 0;soul 2 0;sit 2 29;");
        due("beside(0, 0, 0)", x.beside(0, 0, 0), UsherRows.BAD);
        due("beside(0, 3, 0)", x.beside(0, 3, 0), UsherRows.BAD);
        due("beside(-1, 0, 0)", x.beside(-1, 0, 0), UsherRows.BAD);
        due("beside(0, 1, 2)", x.beside(0, 1, 2), UsherRows.BAD);
        due("beside(0, 2, 0)", x.beside(0, 2, 0), UsherRows.NO);
        due("beside(2, 2, 0)", x.beside(2, 2, 0), UsherRows.BAD);
        due("the first farther in", x.beside(0, 1, 1), 100);
        due("no fuss", x.beside(0, 1, 0), 0);
        for (int c = 0; c < 30; c += 2) {
            x.coat(c, 1);
        }
        due("none side by side", x.beside(0, 1, 0), UsherRows.NONE);
        due("nowhere", x.beside(0, 1, 1), UsherRows.NONE);
        x.coat(6, 0);
        due("not over the end of a row", x.beside(0, 1, 1), 706);
        x.coat(28, 0);
        x.coat(27, 1);
        x.coat(7, 1);
        due("before the last", x.beside(1, 0, 1), UsherRows.NONE);
        x.sends(2);
        due("in the last", x.beside(1, 0, 1), 2928);
        // The second comes a minute behind the first: a late one past one knee in minute 10.
        x = told("hall 0 0 0 0 0;soul 0 0;soul 2 0;soul 0 0;sit 2 0;minutes 8;");
        for (int c = 3; c < 30; c++) {
            x.coat(c, 1);
        }
        due("plain first, minute 9", x.beside(0, 1, 0), 3);
        due("where", x.beside(0, 1, 1), 201);
        due("late first, minute 9", x.beside(1, 0, 0), 2);
        due("where", x.beside(1, 0, 1), 201);
    }

    private static void wrongAndSwaps() {
        part = "promises 20, 21";
        UsherRows x = told("hall 0 0 0 0 0;soul 0 0;soul 0 1;soul 0 2;soul 0 2;soul 0 9;");
        due("nobody sits", x.wrong(), 0);
        due("nobody sits", x.swaps(), 0);
        x.shows(0, 1);
        due("one away", x.wrong(), 1);
        due("one away", x.swaps(), 1);
        x.shows(1, 0);
        due("two in a ring", x.wrong(), 3);
        due("two in a ring", x.swaps(), 1);
        x.shows(3, 2);
        due("one at home", x.wrong(), 3);
        due("one at home", x.swaps(), 1);
        x.shows(2, 5);
        due("the least of like stubs has it", x.wrong(), 7);
        due("the least of like stubs has it", x.swaps(), 2);
        x.coat(9, 1);
        x.shows(4, 10);
        due("coats do not matter", x.swaps(), 3);
        due("all but one", x.wrong(), 1 + 2 + 4 + 16);
        x = told("hall 0 0 0 0 0;soul 0 0;soul 0 1;soul 0 2;soul 0 3;sit 0 1;sit 1 2;sit 2 0;sit 3 3;");
        due("a ring of three", x.swaps(), 2);
        x.sends(2);
        due("a chain of two", x.swaps(), 2);
    }

    private static void seenWhereTell() {
        part = "promises 22 to 24";
        UsherRows x = told("hall 0 0 0 0 0;soul 2 0;soul 0 7;soul 3 0;coat 29;sit 1 7;");
        due("seen(3, 0, 0)", x.seen(3, 0, 0), UsherRows.BAD);
        due("seen(0, 100, 0)", x.seen(0, 100, 0), UsherRows.BAD);
        due("seen(0, -1, 0)", x.seen(0, -1, 0), UsherRows.BAD);
        due("seen(0, 0, 41)", x.seen(0, 0, 41), UsherRows.BAD);
        due("seen(0, 0, -1)", x.seen(0, 0, -1), UsherRows.BAD);
        due("where(0, -1)", x.where(0, -1), 28);
        due("where(0, 7)", x.where(0, 7), 8);
        due("where(0, 27)", x.where(0, 27), 28);
        due("where(0, 28)", x.where(0, 28), -5);
        due("where(0, -2)", x.where(0, -2), -10);
        due("where(3, -1)", x.where(3, -1), -10);
        due("where(-1, 0)", x.where(-1, 0), -10);
        due("tell(3)", x.tell(3), UsherRows.BAD);
        due("tell(-1)", x.tell(-1), UsherRows.BAD);
        due("seen(0, 10, 2)", x.seen(0, 10, 2), 1);
        due("past one", x.where(0, -1), 4);
        due("the first", x.where(0, 0), 8);
        due("the last", x.where(0, 3), 11);
        due("none more", x.where(0, 4), -5);
        due("another soul's do not count", x.where(2, -1), 28);
        due("tell(0)", x.tell(0), 0);
        due("seen(0, 99, 40)", x.seen(0, 99, 40), 2);
        due("none", x.where(0, -1), 0);
        due("none", x.where(0, 0), -5);
        due("tell(0) of none", x.tell(0), UsherRows.NONE);
        x.seen(1, 1, 1);
        due("one who sits passes its own knees", x.where(1, -1), 4);
        due("seen", x.seen(1, 1, 1), 4);
        due("seen", x.seen(1, 1, 1), 5);
        due("a sixth", x.seen(1, 1, 1), UsherRows.FULL);
        due("a bad sixth", x.seen(1, 1, 99), UsherRows.BAD);
        due("count(5)", x.count(5), 5);
        due("status(0)", x.status(0), 11);
        due("status(2)", x.status(2), 1);
        x = told("hall 0 0 0 0 0;soul 0 0;");
        for (int c = 1; c < 30; c++) {
            x.coat(c, 1);
        }
        due("the one cell left", x.where(0, 0), 0);
        due("a minute for one cell", x.tell(0), 0);
        x.coat(0, 1);
        due("no cell", x.tell(0), UsherRows.NONE);
        due("no cell", x.where(0, -1), 0);
    }

    private static void noteIsLook() {
        part = "promises 25, 28, 29";
        UsherRows x = new UsherRows();
        int[][] bad = {{5, 0, 0}, {-1, 0, 0}, {0, 6, 0}, {0, -1, 0}, {0, 0, 21}, {0, 0, -1}};
        for (int[] a : bad) {
            due("note", x.note(a[0], a[1], a[2]), UsherRows.BAD);
        }
        due("is(5)", x.is(5), UsherRows.BAD);
        due("is(-1)", x.is(-1), UsherRows.BAD);
        due("look(5)", x.look(5), UsherRows.BAD);
        due("is(4)", x.is(4), 63);
        due("look(4)", x.look(4), 0);
        due("note(4, 0, 4)", x.note(4, 0, 4), 1);
        due("plain, pillar", x.is(4), 3);
        due("the pillar tells", x.look(4), 2);
        due("another row", x.is(3), 63);
        due("note(4, 2, 8)", x.note(4, 2, 8), 2);
        due("plain", x.is(4), 1);
        due("look(4)", x.look(4), 0);
        due("note(3, 0, 8)", x.note(3, 0, 8), 3);
        due("box, front", x.is(3), 4 + 32);
        due("look(3)", x.look(3), 1);
        due("note(4, 0, 20)", x.note(4, 0, 20), 4);
        due("none", x.is(4), 0);
        due("look of none", x.look(4), UsherRows.NONE);
        x.note(0, 0, 0);
        due("note", x.note(0, 0, 0), 6);
        due("a seventh", x.note(0, 0, 0), UsherRows.FULL);
        due("a bad seventh", x.note(0, 0, 99), UsherRows.BAD);
        due("the row's own kind does not matter", x.row(1, 3) + x.is(1), 63);
        due("status(0)", x.status(0), 10);
    }

    private static void markKindsAsk() {
        part = "promises 26, 30, 31";
        UsherRows x = told("hall 0 0 0 0 0;soul 5 0;soul 0 0;");
        int[][] bad = {{2, 0, 0, 0}, {-1, 0, 0, 0}, {0, 6, 0, 0}, {0, -1, 0, 0}, {0, 0, 100, 0}, {0, 0, -1, 0},
            {0, 0, 0, 41}, {0, 0, 0, -1}};
        for (int[] a : bad) {
            due("mark", x.mark(a[0], a[1], a[2], a[3]), UsherRows.BAD);
        }
        due("kinds(2)", x.kinds(2), UsherRows.BAD);
        due("ask(2)", x.ask(2), UsherRows.BAD);
        due("ask(-1)", x.ask(-1), UsherRows.BAD);
        due("kinds(0)", x.kinds(0), 63);
        due("ask(0)", x.ask(0), 310);
        due("mark(0, 1, 0, 1)", x.mark(0, 1, 0, 1), 1);
        due("plain, late, bishop", x.kinds(0), 1 + 4 + 8);
        due("in minute 10 past two", x.ask(0), 210);
        due("another soul", x.kinds(1), 63);
        due("mark(0, 2, 9, 2)", x.mark(0, 2, 9, 2), 2);
        due("plain, late", x.kinds(0), 1 + 4);
        due("in minute 10 past one", x.ask(0), 110);
        due("mark(0, 5, 99, 10)", x.mark(0, 5, 99, 10), 3);
        due("late", x.kinds(0), 4);
        due("ask(0)", x.ask(0), 0);
        due("mark(0, 0, 0, 40)", x.mark(0, 0, 0, 40), 4);
        due("none", x.kinds(0), 0);
        due("ask of none", x.ask(0), UsherRows.NONE);
        x.mark(1, 0, 0, 0);
        due("mark", x.mark(1, 0, 0, 0), 6);
        due("a seventh", x.mark(1, 0, 0, 0), UsherRows.FULL);
        due("a bad seventh", x.mark(1, 0, 0, 99), UsherRows.BAD);
        due("status(0)", x.status(0), 12);
        due("status(2)", x.status(2), 1);
    }

    private static void forget() {
        part = "promise 27";
        UsherRows x = told("hall 0 0 0 0 0;soul 0 0;");
        x.seen(0, 0, 0);
        x.note(0, 0, 0);
        x.note(0, 0, 0);
        x.mark(0, 0, 0, 0);
        x.mark(0, 0, 0, 0);
        x.mark(0, 0, 0, 0);
        due("forget(3)", x.forget(3), UsherRows.BAD);
        due("forget(-1)", x.forget(-1), UsherRows.BAD);
        due("forget(1)", x.forget(1), 2);
        due("forget(1)", x.forget(1), 0);
        due("count(5)", x.count(5), 1);
        due("count(7)", x.count(7), 3);
        due("forget(2)", x.forget(2), 3);
        due("forget(0)", x.forget(0), 1);
        due("count(5)", x.count(5), 0);
    }

    private static void whispers() {
        part = "promise 32";
        UsherRows x = told("hall 5 4 0 0 0;soul 0 0;soul 5 0;");
        due("whispers(0, 0, 0)", x.whispers(0, 0, 0), UsherRows.BAD);
        due("whispers(0, 2, 0)", x.whispers(0, 2, 0), UsherRows.BAD);
        due("whispers(-1, 0, 0)", x.whispers(-1, 0, 0), UsherRows.BAD);
        due("whispers(0, 1, 30)", x.whispers(0, 1, 30), UsherRows.BAD);
        due("whispers(0, 1, -1)", x.whispers(0, 1, -1), UsherRows.BAD);
        due("a seat worth having", x.whispers(0, 1, 0), 6);
        due("one sees nothing: both may yield", x.whispers(0, 1, 5), 7);
        due("nothing behind a pillar", x.whispers(1, 0, 8), 7);
        x.shows(0, 0);
        due("they may sit", x.whispers(1, 0, 0), 6);
    }

    private static void wetAndPart() {
        part = "promises 33, 35";
        UsherRows x = told("hall 0 0 0 0 0;soul 1 2;soul 0 0;soul 0 8;soul 3 29;sit 1 6;sit 2 7;sit 3 24;");
        due("wet(4, 0)", x.wet(4, 0), UsherRows.BAD);
        due("wet(0, 11)", x.wet(0, 11), UsherRows.BAD);
        due("wet(0, -1)", x.wet(0, -1), UsherRows.BAD);
        due("wet(1, 11)", x.wet(1, 11), UsherRows.BAD);
        due("wet(1, 0)", x.wet(1, 0), UsherRows.NO);
        due("part(0)", x.part(0), 0);
        due("wet(0, 0)", x.wet(0, 0), 1);
        due("dry", x.part(0) * 100 + x.part(1), 201);
        due("wet(0, 10)", x.wet(0, 10), 1);
        due("past two", x.part(0) * 100 + x.part(1), 401);
        due("wet(0, 3)", x.wet(0, 3), 1);
        due("26 by 10", x.part(0) * 100 + x.part(1), 1305);
        due("wet(0, 5)", x.wet(0, 5), 1);
        due("30 by 10", x.part(0) * 100 + x.part(1), 301);
        due("part(2)", x.part(2), UsherRows.BAD);
        due("part(-1)", x.part(-1), UsherRows.BAD);
        due("status(0)", x.status(0), 6);
        x = told("hall 0 0 0 0 0;soul 3 29;soul 0 24;soul 0 23;sit 1 24;");
        due("of row 4 as it is", x.wet(0, 7), 1);
        due("a bishop past one", x.part(0) * 100 + x.part(1), 101);
        due("of row 3 to row 4", x.wet(2, 5), 1);
        due("5 by 10", x.part(0) * 100 + x.part(1), 102);
        due("whoever sits there", x.shows(2, 29) + x.wet(0, 5), 2);
    }

    private static void evenings() {
        part = "promise 34";
        UsherRows x = new UsherRows();
        due("evenings(-1, 0)", x.evenings(-1, 0), UsherRows.BAD);
        due("evenings(1000000, 0)", x.evenings(1000000, 0), UsherRows.BAD);
        due("evenings(0, -1)", x.evenings(0, -1), UsherRows.BAD);
        due("evenings(0, 61)", x.evenings(0, 61), UsherRows.BAD);
        due("nobody", x.evenings(999999, 60), 0);
        // X is 12345: soul 0, cell 0; a restless one makes 2 past none.
        x.soul(1, 0);
        due("evenings(0, 0)", x.evenings(0, 0), 0);
        due("evenings(0, 1)", x.evenings(0, 1), 2);
        x.coat(0, 1);
        due("the cell is kept", x.evenings(0, 1), 0);
        x.coat(0, 0);
        x.shows(0, 5);
        due("it is sent out", x.evenings(0, 1), 2);
        due("nothing is changed", x.of(0, 2), 5);
        due("no minute", x.count(3), 1);
        due("no fuss", x.count(4), 2);
        due("nothing to undo but what was", x.count(8), 3);
    }

    private static void images() {
        part = "promises 36, 37";
        UsherRows x = told("hall 0 1 0 0 0;soul 0 0;");
        due("image(2)", x.image(2), UsherRows.BAD);
        due("image(-1)", x.image(-1), UsherRows.BAD);
        due("from(2)", x.from(2), UsherRows.BAD);
        due("from(-1)", x.from(-1), UsherRows.BAD);
        due("from(0)", x.from(0), UsherRows.NO);
        x.shows(0, 3);
        x.coat(9, 1);
        x.seen(0, 1, 2);
        x.note(1, 2, 3);
        x.mark(0, 1, 2, 3);
        due("image(0)", x.image(0), 1);
        long before = x.digest();
        x.undo();
        x.undo();
        x.minutes(9);
        x.row(0, 5);
        x.soul(1, 1);
        x.forget(0);
        x.forget(1);
        x.forget(2);
        due("from(1)", x.from(1), UsherRows.NO);
        due("from(0)", x.from(0), 1);
        due("all as it was", x.digest(), before);
        due("what may be undone, too", x.undo(), 1);
        due("and more", x.undo(), 0);
        due("out", x.of(0, 2), UsherRows.NONE);
        due("from(0) again", x.from(0), 1);
        due("all as it was", x.digest(), before);
        due("status is not kept", x.status(0), 4);
        x.wet(0, 0);
        x.clear();
        x.hall();
        due("image(1)", x.image(1), 1);
        x.from(0);
        due("the text is not kept", x.count(9), 0);
        x.from(1);
        due("an empty one", x.count(0), 0);
    }

    private static void statusAndCount() {
        part = "promises 38, 39";
        UsherRows x = told("hall 0 0 0 0 0;soul 5 0;soul 0 0;coat 9;coat 8;coat 7;sit 1 0;sit 0 1;");
        x.seen(0, 0, 0);
        x.note(0, 0, 0);
        x.note(0, 0, 0);
        x.mark(0, 0, 0, 0);
        x.mark(0, 0, 0, 0);
        x.mark(0, 0, 0, 0);
        x.minutes(1);
        int[] due = {2, 2, 3, 3, 4, 1, 2, 3, 1, 70};
        for (int what = 0; what < 10; what++) {
            due("count(" + what + ")", x.count(what), due[what]);
        }
        due("count(10)", x.count(10), UsherRows.BAD);
        due("count(-1)", x.count(-1), UsherRows.BAD);
        due("status(3)", x.status(3), -1);
        due("status(-1)", x.status(-1), -1);
        due("status(0)", x.status(0), 4);
        x.order(-2);
        x.best(9, 0);
        x.where(9, 0);
        due("others count as BAD", x.status(0), 7);
        x.best(0, 0);
        due("others count as NO", x.status(1), 1);
        x.order(5);
        x.where(0, 29);
        x.read();
        x.best(0, 1);
        due("not so many is none", x.status(0) + x.status(1) + x.status(2), 9);
    }

    private static void digest() {
        part = "promise 40";
        UsherRows x = new UsherRows();
        long[] fresh = new long[18];
        fresh[17] = 1;
        due("digest()", x.digest(), mix(fresh));
        x = told("hall 1 2 3 4 5;soul 5 7;soul 1 29;coat 29;sit 0 6;");
        x.seen(1, 99, 40);
        x.note(4, 5, 20);
        x.mark(0, 5, 98, 39);
        x.minutes(2);
        x.wet(1, 5);
        long[] v = {2, 1, 1, 3, 0, 1, 1, 1, 1, 50, 1, 2, 3, 4, 5, 1L << 29, 5, 7, 6, 1, 29, -1, 1, 99, 40,
            4, 5, 20, 0, 5, 98, 39, 2, 1};
        due("digest()", x.digest(), mix(v));
        due("status stays", x.status(0), 0);
    }

    private static long mix(long[] values) {
        long h = 1699;
        for (long v : values) {
            h = 31 * h + v;
        }
        return h;
    }

    private static void lastMinute() {
        part = "minute 9999";
        UsherRows x = told("hall 0 0 0 0 0;soul 2 0;soul 2 1;soul 2 2;sit 2 9;");
        for (int n = 0; n < 100; n++) {
            x.minutes(99);
        }
        due("minutes(97)", x.minutes(97), 9998);
        due("the last showing in", x.shows(0, 1), 0);
        due("minute", x.count(3), 9999);
        due("shows", x.shows(1, 2), UsherRows.NO);
        due("moves", x.moves(0, 2), UsherRows.NO);
        due("sends", x.sends(0), UsherRows.NO);
        due("bad first", x.sends(3), UsherRows.BAD);
        due("coats may be laid", x.coat(3, 1), 1);
        due("minutes", x.minutes(5), 9999);
        due("makes", x.makes(1, 2), 2);
        due("order is beyond it", x.order(-1), 0);
        due("beside is beyond it", x.beside(1, 0, 0), UsherRows.NO);
        due("evenings go beyond it", x.evenings(7, 60) > 0 ? 1 : 0, 1);
        due("it stays", x.count(3), 9999);
        due("undo", x.undo(), 9999);
        due("undo", x.undo(), 9999);
        due("undo", x.undo(), 9998);
        due("shows again", x.shows(1, 2), 0);
    }
}
