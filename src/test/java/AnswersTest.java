/** What is asked of a hall, at the edges of what the answers go by: none, like ones, the ends of rows, minute 10. */
public final class AnswersTest {
    public static void main(String[] args) {
        nothingIsChanged();
        makes();
        orderOfRows();
        orderOfWhom();
        orderByMinute();
        bestOfFew();
        bestByFuss();
        besidePairs();
        besideSides();
        besideByMinute();
        wrong();
        swaps();
        swapsOfLikeStubs();
        where();
        whereOfSeveral();
        whereFree();
        whereAsAllSitNow();
        isOfEach();
        look();
        kindsOfEach();
        ask();
        forget();
        whispers();
        wet();
        wetStubs();
        evenings();
        eveningsExactly();
        eveningsByMinute();
        beyondTheLastMinute();
        Desk.end();
    }

    private static UsherRows keptBut(String text, int... free) {
        UsherRows x = Desk.told(text);
        for (int c = 0; c < 30; c++) {
            boolean isFree = false;
            for (int f : free) {
                isFree |= c == f;
            }
            if (!isFree && x.about(c, 1) == -1) {
                x.coat(c, 1);
            }
        }
        return x;
    }

    private static void nothingIsChanged() {
        Desk.part("nothing is changed by");
        Desk.Call[] asked = {x -> x.of(0, 0), x -> x.of(1, 1), x -> x.of(4, 2), x -> x.about(0, 0), x -> x.about(0, 1),
            x -> x.about(8, 2), x -> x.about(29, 3), x -> x.about(29, 4), x -> x.makes(4, 29), x -> x.makes(5, 3),
            x -> x.order(-1), x -> x.order(0), x -> x.order(2), x -> x.order(3), x -> x.best(4, 0), x -> x.best(5, 1),
            x -> x.beside(4, 5, 0), x -> x.beside(6, 4, 1), x -> x.wrong(), x -> x.swaps(), x -> x.where(6, -1),
            x -> x.where(0, 3), x -> x.tell(6), x -> x.is(1), x -> x.look(1), x -> x.kinds(1), x -> x.ask(1),
            x -> x.whispers(0, 4, 29), x -> x.whispers(5, 4, 8), x -> x.evenings(7, 60), x -> x.evenings(999999, 1),
            x -> x.part(0), x -> x.part(1), x -> x.status(0), x -> x.count(8), x -> x.digest()};
        for (int n = 0; n < asked.length; n++) {
            Desk.Maker some = () -> Desk.sitting(4);
            Desk.looks("asking " + n, some, asked[n], asked[n].on(some.make()));
            Desk.Maker last = () -> Desk.inMinute(Desk.sitting(4), 9999);
            Desk.looks("asking " + n + " in minute 9999", last, asked[n], asked[n].on(last.make()));
        }
        // THE FRACTION is told anew as it is: then nothing is changed by this either.
        Desk.looks("wet", () -> Desk.out(7), x -> x.wet(1, 5), 1);
    }

    private static void makes() {
        Desk.part("promise 16");
        UsherRows x = Desk.told("hall 0 0 0 0 0;soul 1 0;soul 0 0;soul 0 0;sit 1 0;sit 2 5;coat 3;");
        Desk.due("to the aisle, where somebody sits", x.makes(0, 0), 2);
        Desk.due("to the far end, where somebody sits", x.makes(0, 5), 3);
        Desk.due("to a coat", x.makes(0, 3), 3);
        Desk.due("to another row", x.makes(0, 6), 2);
        Desk.due("in the minute", x.count(3), 2);
    }

    private static void orderOfRows() {
        Desk.part("promise 17");
        for (int r = 0; r < 5; r++) {
            UsherRows rising = new UsherRows();
            UsherRows falling = new UsherRows();
            for (int s = 0; s < 6; s++) {
                rising.soul(0, 6 * r + s);
                falling.soul(1, 6 * r + 5 - s);
            }
            Desk.due("plain ones", rising.order(-1), 0);
            Desk.due("restless ones", falling.order(-1), 12);
            for (int k = 0; k < 6; k++) {
                Desk.due("the farthest first, " + k, rising.order(k), 5 - k);
                Desk.due("as they rise, " + k, falling.order(k), k);
            }
            Desk.due("not so many", rising.order(6), -5);
            Desk.due("not so many", falling.order(6), -5);
        }
        UsherRows x = Desk.told("hall 0 0 0 0 0;soul 0 0;soul 0 6;soul 0 12;soul 0 18;soul 0 24;soul 0 29;soul 0 5;");
        int[] due = {1, 2, 3, 5, 4, 6, 0};
        for (int k = 0; k < 7; k++) {
            Desk.due("seven, " + k, x.order(k), due[k]);
        }
        Desk.due("no fuss", x.order(-1), 0);
        // A bishop past one makes as much as past two.
        x = Desk.told("hall 0 0 0 0 0;soul 0 0;soul 0 1;soul 3 2;sit 0 0;");
        Desk.due("bishop's fuss and a plain one's", x.order(-1), 2);
        Desk.due("of like orders the first", x.order(0), 1);
        Desk.due("then the bishop", x.order(1), 2);
    }

    private static void orderOfWhom() {
        Desk.part("promise 17, who");
        UsherRows x = Desk.told("hall 0 0 0 0 0;soul 1 29;");
        Desk.due("one, how much", x.order(-1), 2);
        Desk.due("one", x.order(0), 0);
        Desk.due("no second", x.order(1), -5);
        x.coat(29, 1);
        Desk.due("its stub is kept", x.order(0), -5);
        Desk.due("no fuss", x.order(-1), 0);
        x.coat(29, 0);
        x.shows(0, 29);
        Desk.due("it sits there", x.order(0), -5);
        x.moves(0, 28);
        Desk.due("it sits elsewhere", x.order(0), -5);
        Desk.due("no fuss", x.order(-1), 0);
        x = Desk.told("hall 0 0 0 0 0;soul 0 7;soul 1 7;soul 4 7;soul 0 0;");
        Desk.due("of like stubs the least alone", x.order(0), 0);
        Desk.due("and one of another", x.order(1), 3);
        Desk.due("no third", x.order(2), -5);
        Desk.due("no fuss", x.order(-1), 0);
        x.shows(0, 8);
        Desk.due("the least who is out", x.order(0), 1);
        Desk.due("its fuss", x.order(-1), 2);
        x.shows(1, 9);
        Desk.due("the next one", x.order(0), 2);
        Desk.due("its fuss", x.order(-1), 1);
        x.moves(1, 7);
        Desk.due("somebody sits there", x.order(0), 3);
        Desk.due("no second", x.order(1), -5);
        x.shows(3, 7 + 4);
        Desk.due("none", x.order(0), -5);
    }

    /** A late one past one knee makes 1 up to minute 9, and 2 from 10 on. */
    private static void orderByMinute() {
        Desk.part("promise 17, minutes");
        int[] minutes = {7, 8, 9, 10, 9999};
        int[] fuss = {1, 1, 1, 2, 2};
        int[][] who = {{1, 2, 3}, {1, 3, 2}, {3, 1, 2}, {1, 2, 3}, {1, 2, 3}};
        for (int n = 0; n < minutes.length; n++) {
            UsherRows x = Desk.told("hall 0 0 0 0 0;soul 0 0;soul 0 29;soul 0 23;soul 2 1;sit 0 0;");
            Desk.inMinute(x, minutes[n]);
            Desk.due("in minute " + minutes[n], x.order(-1), fuss[n]);
            for (int k = 0; k < 3; k++) {
                Desk.due("in minute " + minutes[n] + ", " + k, x.order(k), who[n][k]);
            }
        }
    }

    private static void bestOfFew() {
        Desk.part("promise 18");
        for (int c = 0; c < 30; c++) {
            UsherRows x = keptBut("hall 0 1 2 4 5;soul 0 0;soul 1 0;", c);
            int kind = new int[] {0, 1, 2, 4, 5}[c / 6];
            Desk.due("the one free cell " + c, x.best(0, 0), c);
            Desk.due("its sight", x.best(0, 1), Desk.SIGHTS[kind][c % 6]);
            Desk.due("less the fuss", x.best(1, 1), Desk.SIGHTS[kind][c % 6] - 2);
        }
        UsherRows x = keptBut("hall 0 0 0 0 0;soul 0 0;");
        Desk.due("no cell", x.best(0, 0), -1);
        Desk.due("how much of none", x.best(0, 1), -1000);
        x = new UsherRows();
        x.soul(0, 0);
        Desk.due("of like ones the least", x.best(0, 0), 2);
        x.coat(2, 1);
        Desk.due("the next", x.best(0, 0), 3);
        x.coat(3, 1);
        Desk.due("in the next row", x.best(0, 0), 8);
        x.row(4, 2);
        Desk.due("more is better than less", x.best(0, 0), 26);
        Desk.due("how much", x.best(0, 1), 12);
    }

    private static void bestByFuss() {
        Desk.part("promise 18, fuss");
        String three = "hall 0 0 0 0 0;soul 2 0;soul 0 0;soul 0 0;soul 0 0;sit 1 0;sit 2 1;sit 3 2;";
        UsherRows x = Desk.inMinute(keptBut(three, 3, 6), 9);
        Desk.due("past three in minute 9", x.best(0, 0), 3);
        Desk.due("how much", x.best(0, 1), 5);
        x.minutes(1);
        Desk.due("not in minute 10", x.best(0, 0), 6);
        Desk.due("how much", x.best(0, 1), 4);
        x = Desk.inMinute(keptBut("hall 5 0 0 0 0;soul 5 0;soul 0 0;soul 0 0;soul 0 0;soul 0 0;soul 0 0;"
            + "sit 1 0;sit 2 1;sit 3 2;sit 4 3;sit 5 4;", 5), 10);
        Desk.due("a moon past five to see nothing", x.best(0, 1), -13);
        Desk.due("its cell", x.best(0, 0), 5);
        x = keptBut("hall 5 0 0 0 0;soul 0 0;", 5);
        Desk.due("neither sight nor fuss", x.best(0, 1), 0);
        Desk.due("its cell", x.best(0, 0), 5);
        // The couple past one: 8 less 2; at the aisle of a roof: 4 less 1.
        x = keptBut("hall 0 3 0 0 0;soul 4 0;soul 0 0;sit 1 0;", 3, 8);
        Desk.due("the couple", x.best(0, 0) * 100 + x.best(0, 1), 306);
    }

    private static void besidePairs() {
        Desk.part("promise 19");
        for (int c = 0; c < 29; c++) {
            UsherRows x = keptBut("hall 0 0 0 0 0;soul 0 0;soul 0 0;", c, c + 1);
            boolean oneRow = c % 6 != 5;
            Desk.due("fuss in " + c + " and the next", x.beside(0, 1, 0), oneRow ? 0 : -1);
            Desk.due("where, by " + c, x.beside(0, 1, 1), oneRow ? 100 * (c + 1) + c : -1);
            Desk.due("the other way round, by " + c, x.beside(1, 0, 1), oneRow ? 100 * (c + 1) + c : -1);
        }
        UsherRows x = keptBut("hall 0 0 0 0 0;soul 0 0;soul 0 0;", 0, 2, 4, 6, 11, 12, 29);
        Desk.due("none side by side", x.beside(0, 1, 0), -1);
        Desk.due("nowhere", x.beside(0, 1, 1), -1);
        x = keptBut("hall 0 0 0 0 0;soul 0 0;soul 0 0;");
        Desk.due("none at all", x.beside(0, 1, 0), -1);
        Desk.due("nowhere", x.beside(0, 1, 1), -1);
        x = keptBut("hall 0 0 0 0 0;soul 0 0;soul 0 0;soul 0 0;sit 2 13;", 12, 14, 15);
        Desk.due("somebody sits between", x.beside(0, 1, 1), 1514);
        Desk.due("past somebody, both", x.beside(0, 1, 0), 2);
    }

    private static void besideSides() {
        Desk.part("promise 19, sides");
        UsherRows x = new UsherRows();
        x.soul(1, 0);
        x.soul(4, 0);
        Desk.due("farther in first", x.beside(0, 1, 1), 100);
        Desk.due("how much", x.beside(0, 1, 0), 3);
        // Behind one who sits: a bishop makes 1 past one as past two, so either side is alike, and the least is told.
        x = keptBut("hall 0 0 0 0 0;soul 0 0;soul 3 0;soul 0 0;sit 2 0;", 1, 2);
        Desk.due("a plain one, then a bishop", x.beside(0, 1, 1), 102);
        Desk.due("how much", x.beside(0, 1, 0), 2);
        Desk.due("a bishop, then a plain one", x.beside(1, 0, 1), 201);
        Desk.due("how much", x.beside(1, 0, 0), 2);
        x = keptBut("hall 0 0 0 0 0;soul 0 0;soul 3 0;soul 0 0;sit 2 0;", 1, 2, 28, 29);
        Desk.due("less fuss in another row", x.beside(0, 1, 1), 2928);
        Desk.due("none", x.beside(0, 1, 0), 0);
    }

    private static void besideByMinute() {
        Desk.part("promise 19, minutes");
        int[] minutes = {8, 9, 10, 9998, 9999};
        int[] both = {2, 3, 4, 4, 4};
        int[] second = {2, 3, 3, 3, 3};
        int[] first = {2, 2, 3, 3, 3};
        for (int n = 0; n < minutes.length; n++) {
            UsherRows x = keptBut("hall 0 0 0 0 0;soul 2 0;soul 2 0;soul 0 0;soul 0 0;sit 3 0;", 1, 2);
            Desk.inMinute(x, minutes[n]);
            Desk.due("two late ones in " + minutes[n], x.beside(0, 1, 0), both[n]);
            Desk.due("a late one second in " + minutes[n], x.beside(2, 0, 0), second[n]);
            Desk.due("a late one first in " + minutes[n], x.beside(0, 2, 0), first[n]);
            Desk.due("where", x.beside(0, 1, 1), 201);
        }
    }

    private static void wrong() {
        Desk.part("promise 20");
        UsherRows x = Desk.sitting(7);
        Desk.due("each at home", x.wrong(), 0);
        for (int i = 0; i < 7; i++) {
            x.moves(i, 3);
            Desk.due("soul " + i + " alone", x.wrong(), 1 << i);
            x.undo();
        }
        for (int i = 0; i < 7; i++) {
            x.moves(i, x.of(i, 1) % 6 == 5 ? x.of(i, 1) - 1 : x.of(i, 1) + 1);
            Desk.due("up to soul " + i, x.wrong(), (2 << i) - 1);
        }
        Desk.due("all", x.wrong(), 127);
        x.sends(6);
        Desk.due("who is out is not wrong", x.wrong(), 63);
        x = Desk.told("hall 0 0 0 0 0;soul 0 7;soul 0 7;sit 1 7;sit 0 8;");
        Desk.due("like stubs: who sits elsewhere", x.wrong(), 1);
    }

    private static UsherRows shifted(int souls, boolean ring) {
        UsherRows x = new UsherRows();
        for (int i = 0; i < souls; i++) {
            x.soul(0, 5 * i % 29);
        }
        for (int i = 0; i < souls; i++) {
            x.shows(i, ring || i + 1 < souls ? 5 * ((i + 1) % souls) % 29 : 28);
        }
        return x;
    }

    private static void swaps() {
        Desk.part("promise 21");
        for (int n = 1; n <= 7; n++) {
            Desk.due("a ring of " + n, shifted(n, true).swaps(), n - 1);
            Desk.due("a chain of " + n, shifted(n, false).swaps(), n);
            Desk.due("in a chain all sit wrong", shifted(n, false).wrong(), (1 << n) - 1);
        }
        UsherRows x = Desk.sitting(7);
        Desk.due("each at home", x.swaps(), 0);
        x.moves(0, 3);
        Desk.due("one away", x.swaps(), 1);
        x.sends(0);
        Desk.due("who is out needs none", x.swaps(), 0);
        // Rings of two, two and three.
        x = new UsherRows();
        int[] cells = {1, 0, 12, 7, 15, 29, 14};
        int[] stubs = {0, 1, 7, 12, 14, 15, 29};
        for (int i = 0; i < 7; i++) {
            x.soul(0, stubs[i]);
            x.shows(i, cells[i]);
        }
        Desk.due("three rings", x.swaps(), 4);
        x.sends(1);
        Desk.due("one of them broken", x.swaps(), 4);
        x.coat(0, 1);
        Desk.due("coats do not matter", x.swaps(), 4);
        x.sends(3);
        Desk.due("two broken", x.swaps(), 4);
        x.sends(5);
        Desk.due("all broken", x.swaps(), 4);
        x.sends(0);
        Desk.due("one less", x.swaps(), 3);
    }

    private static void swapsOfLikeStubs() {
        Desk.part("promise 21, like stubs");
        UsherRows x = Desk.told("hall 0 0 0 0 0;soul 0 7;soul 0 7;soul 0 7;sit 1 8;sit 2 9;");
        Desk.due("the least who sits", x.swaps(), 1);
        x.moves(2, 7);
        Desk.due("another sits there", x.swaps(), 1);
        x.moves(2, 10);
        x.moves(1, 7);
        Desk.due("it is there, the other anywhere", x.swaps(), 0);
        x.shows(0, 11);
        Desk.due("a lesser one has come", x.swaps(), 1);
        x.moves(1, 20);
        x.moves(0, 7);
        Desk.due("the least is there, the others anywhere", x.swaps(), 0);
        x.sends(0);
        x.sends(1);
        Desk.due("the last alone", x.swaps(), 1);
        // 1 is on 0's stub and 0 on 1's, but that stub is soul 0's too: no ring.
        x = Desk.told("hall 0 0 0 0 0;soul 0 7;soul 0 8;soul 0 8;sit 0 8;sit 2 7;");
        Desk.due("a ring of the two who sit", x.swaps(), 1);
        x.shows(1, 20);
        Desk.due("the stub's own sits elsewhere", x.swaps(), 2);
        x.moves(0, 7 + 2);
        x.moves(1, 7 + 1);
        Desk.due("one at home, one away", x.swaps(), 1);
    }

    // Row 0 has one in its first seat, row 1 two, row 2 three: 12 free cells past none, 5 past one, 4 past two, 3 past three.
    private static UsherRows steps(int kind) {
        return Desk.told("hall 0 0 0 0 0;soul " + kind + " 0;soul 0 0;soul 0 0;soul 0 0;soul 0 0;soul 0 0;soul 0 0;"
            + "sit1 0;sit2 6;sit3 7;sit4 12;sit5 13;sit6 14;");
    }

    private static void where() {
        Desk.part("promises 23, 24");
        int[] cells = {12, 5, 4, 3};
        int[] firsts = {18, 1, 8, 15};
        int[] lasts = {29, 5, 11, 17};
        int[] minutes = {0, 9, 10, 99};
        for (int kind = 0; kind < 6; kind++) {
            for (int t : minutes) {
                UsherRows x = steps(kind);
                for (int fuss = 0; fuss <= 40; fuss++) {
                    int many = 0;
                    int first = 30;
                    int last = -1;
                    for (int k = 0; k < 4; k++) {
                        if (Desk.fuss(kind, k, t) == fuss) {
                            many += cells[k];
                            first = Math.min(first, firsts[k]);
                            last = Math.max(last, lasts[k]);
                        }
                    }
                    String seen = "kind " + kind + ", minute " + t + ", fuss " + fuss;
                    Desk.due("seen", x.seen(0, t, fuss), 1);
                    Desk.due("how many, " + seen, x.where(0, -1), many);
                    Desk.due("the first, " + seen, x.where(0, 0), many == 0 ? -5 : first);
                    Desk.due("the last, " + seen, x.where(0, many - 1 < 0 ? 0 : many - 1), many == 0 ? -5 : last);
                    Desk.due("none more, " + seen, x.where(0, many), -5);
                    Desk.due("tell, " + seen, x.tell(0), many == 0 ? -1 : 0);
                    Desk.due("forget", x.forget(0), 1);
                }
            }
        }
    }

    private static void whereOfSeveral() {
        Desk.part("promises 22, 23");
        UsherRows x = steps(2);
        Desk.due("nothing seen", x.where(0, -1), 24);
        x.seen(0, 9, 2);
        Desk.due("past two in minute 9", x.where(0, -1), 4);
        x.seen(0, 10, 4);
        Desk.due("and in minute 10", x.where(0, -1), 4);
        x.seen(1, 0, 40);
        Desk.due("another's does not count", x.where(0, -1), 4);
        Desk.due("but for itself", x.where(1, -1), 0);
        x.seen(0, 99, 4);
        Desk.due("once more", x.where(0, -1), 4);
        Desk.due("a fifth", x.seen(0, 10, 2), 5);
        Desk.due("all of them must be so", x.where(0, -1), 0);
        Desk.due("no cell", x.tell(0), -1);
        Desk.due("a sixth", x.seen(0, 0, 0), -4);
    }

    private static void whereFree() {
        Desk.part("promises 23, 24, free cells");
        UsherRows x = new UsherRows();
        x.soul(0, 0);
        for (int k = 0; k < 30; k++) {
            Desk.due("all thirty, " + k, x.where(0, k), k);
        }
        Desk.due("how many", x.where(0, -1), 30);
        Desk.due("none more", x.where(0, 30), -5);
        for (int c = 0; c < 30; c++) {
            Desk.due("tell", x.tell(0), 0);
            Desk.due("the first", x.where(0, 0), c);
            Desk.due("the last", x.where(0, 29 - c), 29);
            x.coat(c, 1);
            Desk.due("how many are left", x.where(0, -1), 29 - c);
        }
        Desk.due("none", x.where(0, 0), -5);
        Desk.due("tell", x.tell(0), -1);
        for (int c = 0; c < 30; c++) {
            x.coat(c, 0);
            Desk.due("one alone", x.where(0, 0), c);
            Desk.due("how many", x.where(0, -1), 1);
            Desk.due("tell", x.tell(0), 0);
            x.coat(c, 1);
        }
        x.coat(29, 0);
        x.shows(0, 29);
        Desk.due("somebody sits there", x.where(0, -1), 0);
        Desk.due("tell of one who sits", x.tell(0), -1);
    }

    /** What was seen goes by how all sit when it is asked, not by how they sat. */
    private static void whereAsAllSitNow() {
        Desk.part("promises 22 to 24, as all sit now");
        UsherRows x = Desk.told("hall 0 0 0 0 0;soul 5 0;soul 0 0;soul 0 0;sit 1 0;");
        x.seen(0, 10, 5);
        Desk.due("past one", x.where(0, -1), 5);
        Desk.due("the first", x.where(0, 0), 1);
        x.shows(2, 1);
        Desk.due("past two behind it", x.where(0, -1), 0);
        Desk.due("no cell", x.tell(0), -1);
        x.moves(2, 27);
        Desk.due("past one in two rows", x.where(0, -1), 7);
        Desk.due("the last", x.where(0, 6), 29);
        x.sends(1);
        Desk.due("in the last row alone", x.where(0, -1), 2);
        Desk.due("the first", x.where(0, 0), 28);
        x.coat(28, 1);
        Desk.due("a coat keeps one of them", x.where(0, 0), 29);
        x.sends(2);
        Desk.due("past nobody", x.where(0, -1), 0);
        x.undo();
        Desk.due("as it was", x.where(0, -1), 1);
    }

    private static void isOfEach() {
        Desk.part("promises 25, 28");
        for (int s = 0; s < 6; s++) {
            UsherRows x = new UsherRows();
            for (int sight = 0; sight <= 20; sight++) {
                int bits = 0;
                for (int kind = 0; kind < 6; kind++) {
                    bits |= Desk.SIGHTS[kind][s] == sight ? 1 << kind : 0;
                }
                Desk.due("a note", x.note(sight % 5, s, sight), 1);
                Desk.due("seat " + s + ", sight " + sight, x.is(sight % 5), bits);
                Desk.due("of another row", x.is((sight + 1) % 5), 63);
                if (bits == 0) {
                    Desk.due("no kind", x.look(sight % 5), -1);
                }
                Desk.due("forget", x.forget(1), 1);
            }
        }
        UsherRows x = new UsherRows();
        x.note(4, 0, 4);
        x.note(0, 0, 20);
        x.note(4, 5, 4);
        x.note(4, 3, 8);
        x.note(4, 4, 6);
        Desk.due("four of them so", x.is(4), 3);
        Desk.due("a sixth", x.note(4, 2, 0), 6);
        Desk.due("all of them so", x.is(4), 2);
        Desk.due("a seventh", x.note(4, 2, 0), -4);
    }

    private static void look() {
        Desk.part("promise 29");
        // Row by row: seat, what was seen from there, the seat that parts the kinds that are left.
        int[][] notes = {{0, 4, 2}, {0, 8, 1}, {0, 2, 1}, {2, 8, 0}, {2, 0, 0}, {3, 6, 0}, {2, 12, 0}, {0, 20, -1}};
        for (int[] n : notes) {
            UsherRows x = new UsherRows();
            Desk.due("nothing noted", x.look(0), 0);
            x.note(0, n[0], n[1]);
            Desk.due("seat " + n[0] + ", sight " + n[1], x.look(0), n[2]);
            Desk.due("of another row", x.look(4), 0);
        }
    }

    private static void kindsOfEach() {
        Desk.part("promises 26, 30");
        int[] minutes = {0, 9, 10, 99};
        for (int k = 0; k < 6; k++) {
            for (int t : minutes) {
                UsherRows x = Desk.told("hall 0 0 0 0 0;soul 4 0;soul 0 0;");
                for (int fuss = 0; fuss <= 40; fuss++) {
                    int bits = 0;
                    for (int kind = 0; kind < 6; kind++) {
                        bits |= Desk.fuss(kind, k, t) == fuss ? 1 << kind : 0;
                    }
                    Desk.due("a mark", x.mark(0, k, t, fuss), 1);
                    Desk.due("past " + k + " in " + t + ", fuss " + fuss, x.kinds(0), bits);
                    Desk.due("of another soul", x.kinds(1), 63);
                    if (bits == 0) {
                        Desk.due("no kind", x.ask(0), -1);
                    }
                    Desk.due("forget", x.forget(2), 1);
                }
            }
        }
        UsherRows x = Desk.told("hall 0 0 0 0 0;soul 4 0;soul 0 0;");
        x.mark(0, 0, 0, 0);
        x.mark(1, 0, 0, 40);
        x.mark(0, 1, 9, 1);
        x.mark(0, 3, 5, 3);
        x.mark(0, 0, 99, 0);
        Desk.due("four of them so", x.kinds(0), 1 + 4);
        Desk.due("a sixth", x.mark(0, 5, 10, 10), 6);
        Desk.due("all of them so", x.kinds(0), 4);
        Desk.due("a seventh", x.mark(0, 5, 10, 10), -4);
    }

    private static void ask() {
        Desk.part("promise 31");
        // Knees, minute, fuss of one mark, and what parts the kinds that are left.
        int[][] marks = {{0, 0, 0, 210}, {1, 0, 1, 210}, {1, 10, 1, 200}, {2, 0, 2, 110}, {2, 10, 7, 0}, {0, 0, 2, 0},
            {1, 9, 4, 0}, {1, 9, 2, 0}, {0, 0, 40, -1}, {3, 9, 6, 0}, {5, 9, 6, 0}};
        for (int[] m : marks) {
            UsherRows x = Desk.told("hall 0 0 0 0 0;soul 0 0;soul 3 29;");
            Desk.due("nothing marked", x.ask(0), 310);
            x.mark(0, m[0], m[1], m[2]);
            Desk.due("past " + m[0] + " in " + m[1] + ", fuss " + m[2], x.ask(0), m[3]);
            Desk.due("of another soul", x.ask(1), 310);
        }
        UsherRows x = Desk.told("hall 0 0 0 0 0;soul 0 0;");
        x.mark(0, 0, 0, 0);
        x.mark(0, 2, 10, 2);
        Desk.due("a plain one alone", x.ask(0), 0);
    }

    private static void forget() {
        Desk.part("promise 27");
        for (int what = 0; what < 3; what++) {
            UsherRows x = Desk.told("hall 0 0 0 0 0;soul 0 0;");
            Desk.due("of none", x.forget(what), 0);
            for (int n = 0; n < 7; n++) {
                x.seen(0, n, n);
                x.note(0, 0, n);
                x.mark(0, 0, n, n);
            }
            int[] most = {5, 6, 6};
            Desk.due("of all", x.forget(what), most[what]);
            for (int other = 0; other < 3; other++) {
                Desk.due("what is left", x.count(5 + other), other == what ? 0 : most[other]);
            }
            Desk.due("again", x.forget(what), 0);
            Desk.due("the first anew", what == 0 ? x.seen(0, 1, 1) : what == 1 ? x.note(0, 0, 4) : x.mark(0, 1, 1, 1), 1);
            Desk.due("one", x.forget(what), 1);
        }
        UsherRows x = Desk.out(7);
        x.forget(0);
        x.forget(1);
        x.forget(2);
        Desk.due("what may be undone stays", x.count(8), 2);
    }

    private static void whispers() {
        Desk.part("promise 32");
        for (int kind = 0; kind < 6; kind++) {
            UsherRows x = Desk.told("hall 0 0 0 0 0;soul 0 0;soul 5 0;soul 2 0;soul 1 0;sit 2 0;sit 3 1;");
            x.row(0, kind);
            x.row(4, kind);
            for (int s = 0; s < 6; s++) {
                // Both yield where nothing is seen; one alone always may keep it; neither never rests.
                int due = Desk.SIGHTS[kind][s] == 0 ? 7 : 6;
                Desk.due("kind " + kind + ", seat " + s, x.whispers(0, 1, s), due);
                Desk.due("far, kind " + kind + ", seat " + s, x.whispers(1, 0, 24 + s), due);
                Desk.due("one sits", x.whispers(2, 0, s), due);
                Desk.due("both sit", x.whispers(3, 2, 24 + s), due);
            }
        }
    }

    private static void fraction(String what, UsherRows x, long above, long below) {
        Desk.due("above, " + what, x.part(0), above);
        Desk.due("below, " + what, x.part(1), below);
    }

    private static void wet() {
        Desk.part("promise 33");
        int[][] tenths = {{0, 1}, {1, 10}, {1, 5}, {3, 10}, {2, 5}, {1, 2}, {3, 5}, {7, 10}, {4, 5}, {9, 10}, {1, 1}};
        for (int c = 0; c <= 10; c++) {
            // Soul 0 passes one in the next row alone, soul 1 in its own alone.
            UsherRows x = Desk.told("hall 0 0 0 0 0;soul 0 1;soul 0 7;soul 0 6;sit 2 6;");
            Desk.due("wet", x.wet(0, c), 1);
            fraction("none, then one, " + c, x, tenths[c][0], tenths[c][1]);
            Desk.due("wet", x.wet(1, c), 1);
            fraction("one, then none, " + c, x, tenths[10 - c][0], tenths[10 - c][1]);
        }
        UsherRows x = Desk.told("hall 0 0 0 0 0;soul 5 4;soul 0 6;soul 0 7;soul 0 8;sit 1 6;sit 2 7;sit 3 8;");
        Desk.inMinute(x, 9);
        x.wet(0, 5);
        fraction("a moon past three in minute 9", x, 3, 1);
        x.wet(0, 4);
        fraction("24 by 10", x, 12, 5);
        x.minutes(1);
        x.wet(0, 5);
        fraction("in minute 10", x, 9, 2);
        x.wet(0, 10);
        fraction("read wrong", x, 9, 1);
        x.wet(0, 0);
        fraction("read right: none", x, 0, 1);
        Desk.inMinute(x, 9999);
        x.wet(0, 1);
        fraction("in minute 9999", x, 9, 10);
    }

    private static void wetStubs() {
        Desk.part("promise 33, stubs");
        int[] stubs = {0, 5, 17, 18, 23, 24, 25, 29};
        // Row 3 has one in its first seat, row 4 two in its first two.
        int[][] due = {{0, 1}, {0, 1}, {1, 2}, {0, 1}, {3, 2}, {0, 1}, {1, 1}, {2, 1}};
        for (int n = 0; n < stubs.length; n++) {
            UsherRows x = Desk.told("hall 0 0 0 0 0;soul 0 0;soul 0 0;soul 0 0;soul 0 " + stubs[n]
                + ";coat 11;sit 0 18;sit 1 24;sit 2 25;");
            x.wet(3, 5);
            fraction("stub " + stubs[n], x, due[n][0], due[n][1]);
        }
        UsherRows x = Desk.told("hall 0 0 0 0 0;soul 1 1;soul 0 0;soul 0 0;sit 1 0;sit 2 7;coat 1;");
        x.wet(0, 0);
        fraction("a coat lies there", x, 3, 1);
        x.wet(0, 10);
        fraction("somebody sits there", x, 2, 1);
    }

    private static void evenings() {
        Desk.part("promise 34");
        // By seed 2569: soul 6 and cell 0, then soul 0 and cell 29.
        String souls = "hall 0 0 0 0 0;" + "soul 1 7;".repeat(6);
        UsherRows x = Desk.told(souls + "soul 1 7;");
        Desk.due("no times", x.evenings(2569, 0), 0);
        Desk.due("the last soul to the first cell", x.evenings(2569, 1), 2);
        Desk.due("the first soul to the last cell", x.evenings(2569, 2), 4);
        x.coat(0, 1);
        Desk.due("a coat on the first", x.evenings(2569, 1), 0);
        Desk.due("a coat on the first, twice", x.evenings(2569, 2), 2);
        x.coat(29, 1);
        Desk.due("a coat on both", x.evenings(2569, 2), 0);
        x.coat(0, 0);
        Desk.due("a coat on the last", x.evenings(2569, 2), 2);
        x.coat(29, 0);
        x.shows(3, 0);
        Desk.due("somebody in the first", x.evenings(2569, 1), 0);
        x.shows(4, 29);
        Desk.due("somebody in both", x.evenings(2569, 2), 0);
        x.moves(3, 1);
        Desk.due("somebody in the last", x.evenings(2569, 2), 2);
        x.moves(4, 24);
        Desk.due("past somebody to the last", x.evenings(2569, 2), 5);
        x.shows(6, 2);
        Desk.due("soul 6 sent out past somebody", x.evenings(2569, 1), 3);
        x = Desk.told(souls);
        Desk.due("soul 6 is not there", x.evenings(2569, 1), 0);
        Desk.due("but soul 0 is", x.evenings(2569, 2), 2);
        // By seed 7: soul 6 to cell 22, then sent out of it.
        x = Desk.told(souls + "soul 4 7;");
        Desk.due("shown in", x.evenings(7, 1), 1);
        Desk.due("and sent out", x.evenings(7, 2), 2);
        Desk.due("what was stays", x.of(6, 2), -1);
    }

    /** Seeds whose X, once made, is just at a multiple of 1048576 or 65536, or just below one: who it is, and where. */
    private static void eveningsExactly() {
        Desk.part("promise 34, cut");
        int[][] due = {{501379, 4, 15}, {899870, 0, 12}, {42627, 1, 23}, {47902, 2, 24}, {388515, 0, 0}, {518020, 0, 7}};
        for (int[] d : due) {
            UsherRows x = new UsherRows();
            for (int i = 0; i < 7; i++) {
                x.soul(i == d[1] ? 1 : 0, 0);
            }
            Desk.due("soul " + d[1] + " by " + d[0], x.evenings(d[0], 1), 2);
            for (int c = 0; c < 30; c++) {
                x.coat(c, 1);
                Desk.due("cell " + d[2] + " by " + d[0] + ", a coat on " + c, x.evenings(d[0], 1), c == d[2] ? 0 : 2);
                x.coat(c, 0);
            }
        }
    }

    /** By seed 21: soul 3, who is not there; soul 0 to cell 3; soul 0 again. By 6: soul 3, then soul 0 to cell 4. */
    private static void eveningsByMinute() {
        Desk.part("promise 34, minutes");
        int[] minutes = {7, 8, 9, 10, 9997, 9998, 9999};
        int[] shown = {1, 1, 2, 2, 2, 2, 2};
        int[] sent = {2, 3, 4, 4, 4, 4, 4};
        for (int n = 0; n < minutes.length; n++) {
            UsherRows x = Desk.told("hall 0 0 0 0 0;soul 2 29;soul 0 0;sit 1 0;");
            Desk.inMinute(x, minutes[n]);
            Desk.due("a minute goes by in " + minutes[n], x.evenings(21, 1), 0);
            Desk.due("shown in behind " + minutes[n], x.evenings(21, 2), shown[n]);
            Desk.due("sent out behind " + minutes[n], x.evenings(21, 3), sent[n]);
            Desk.due("by another seed, behind " + minutes[n], x.evenings(6, 2), shown[n]);
            Desk.due("the minute stays", x.count(3), minutes[n]);
        }
        // By seed 0: soul 0 to cell 0; a coat there lets the minute go by as well.
        UsherRows x = Desk.told("hall 0 0 0 0 0;soul 0 1;soul 2 1;soul 0 0;sit 2 12;coat 0;");
        Desk.due("kept", x.evenings(0, 1), 0);
    }

    private static void beyondTheLastMinute() {
        Desk.part("minutes go beyond 9999");
        Desk.Maker last = () -> Desk.inMinute(Desk.told("hall 0 0 0 0 0;soul 2 5;soul 5 4;soul 0 0;sit 2 0;"), 9999);
        Desk.looks("makes", last, x -> x.makes(0, 5), 2);
        // The late one past one (2), then the moon past one (5).
        Desk.looks("order, how much", last, x -> x.order(-1), 7);
        Desk.looks("order, who first", last, x -> x.order(0), 0);
        Desk.looks("order, who second", last, x -> x.order(1), 1);
        Desk.looks("best cell", last, x -> x.best(0, 0), 8);
        Desk.looks("best", last, x -> x.best(0, 1), 8);
        Desk.looks("beside, how much", last, x -> x.beside(0, 1, 0), 0);
        Desk.looks("beside, where", last, x -> x.beside(0, 1, 1), 706);
        Desk.looks("evenings", last, x -> x.evenings(0, 60), 20);
        Desk.stands("wet", last, x -> x.wet(0, 0) + x.part(0), 3);
    }
}
