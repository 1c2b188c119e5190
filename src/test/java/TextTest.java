/** THE TEXT: its bytes, its TOKENS, each FAULT, and what a hall that is read takes the place of. */
public final class TextTest {
    private static final String HALL = "hall 0 0 0 0 0;";
    private static final String TWO = HALL + "soul 0 3;soul 1 9;";

    public static void main(String[] args) {
        length();
        clearedBytes();
        cutShort();
        everyByte();
        words();
        aheadOfHall();
        hallAgain();
        eighthSoul();
        figures();
        numbersOfItems();
        soulsThatCanNot();
        cellsThatCanNot();
        tokensOutOfPlace();
        firstFaultCounts();
        blanks();
        items();
        minutesOfText();
        whatItTakesThePlaceOf();
        whatStays();
        Desk.end();
    }

    /** A hall with something of everything, and this text instead of its own. */
    private static UsherRows with(String text) {
        UsherRows x = Desk.out(2);
        x.clear();
        Desk.type(x, text);
        return x;
    }

    private static void fault(String text, int at) {
        Desk.looks("read of '" + text + "'", () -> with(text), x -> x.read(), -10 - at);
    }

    private static void reads(String text, int items) {
        Desk.stands("read of '" + text + "'", () -> with(text), x -> x.read(), items);
    }

    private static String blanks(int many) {
        return " ".repeat(many);
    }

    private static void length() {
        Desk.part("promises 5, 6");
        UsherRows x = new UsherRows();
        Desk.due("clear of an empty one", x.clear(), 0);
        Desk.due("the first byte", x.type(0), 1);
        Desk.due("clear of one", x.clear(), 1);
        Desk.due("clear again", x.clear(), 0);
        for (int n = 1; n <= 150; n++) {
            Desk.due("byte " + n, x.type(n % 128), n);
            Desk.due("bytes", x.count(9), n);
        }
        Desk.due("byte 151", x.type(0), -4);
        Desk.due("bytes", x.count(9), 150);
        Desk.due("clear of a full one", x.clear(), 150);
        Desk.due("bytes", x.count(9), 0);
        Desk.due("the first byte again", x.type(127), 1);
        Desk.part("promise 7");
        fault("", 0);
        fault(" ", 1);
        fault(blanks(149), 149);
        fault(blanks(150), 150);
        reads(HALL + blanks(135), 1);
        reads(blanks(135) + HALL, 1);
        fault(HALL + blanks(134) + "!", 149);
        fault(HALL + blanks(134) + ";", 149);
        fault(HALL + blanks(131) + "coat", 150);
        fault("hall" + blanks(146), 150);
        fault("!" + blanks(149), 0);
        fault(HALL + blanks(129) + "coat 1", 150);
        fault(HALL + blanks(131) + "soul", 150);
        fault(HALL + blanks(131) + "sout", 146);
        reads(HALL + blanks(128) + "coat 1;", 2);
    }

    /** What was typed ahead of a clear is gone, behind the text's end, too. */
    private static void clearedBytes() {
        Desk.part("promises 6, 7, bytes of an earlier text");
        cleared("hall 0000", "hall 0", -10 - 6);
        cleared("hall 0 0 0 0 00;", "hall 0 0 0 0 0", -10 - 14);
        cleared("hallhall", "hall", -10 - 4);
        cleared("hall 0 0 0 0 0;", "hall 0 0 0 0 0", -10 - 14);
        cleared(HALL + "coat 5;", HALL, 1);
        cleared(HALL + "coat 5;", HALL + "coat", -10 - 19);
        cleared(HALL + "!", HALL + " ", 1);
        cleared(HALL, "", -10);
        cleared(HALL, "   ", -10 - 3);
    }

    private static void cleared(String earlier, String text, int due) {
        UsherRows x = new UsherRows();
        Desk.type(x, earlier);
        Desk.due("clear", x.clear(), earlier.length());
        Desk.type(x, text);
        Desk.due("read of '" + text + "' behind '" + earlier + "'", x.read(), due);
        Desk.due("bytes", x.count(9), text.length());
    }

    /** Up to each byte of a text that is right: an end inside of a word leaves a word that is none. */
    private static void cutShort() {
        Desk.part("promise 7, cut short");
        String text = "hall 0 1 2 3 4;soul 5 29; coat 17 ;sit 0 29;out 0;minutes 99;";
        int items = 0;
        for (int n = 0; n <= text.length(); n++) {
            String cut = text.substring(0, n);
            if (cut.endsWith(";")) {
                items++;
            }
            int word = n;
            while (word > 0 && Character.isLetter(text.charAt(word - 1))) {
                word--;
            }
            boolean insideWord = word < n && n < text.length() && Character.isLetter(text.charAt(n));
            if (insideWord) {
                fault(cut, word);
            } else if (cut.strip().endsWith(";")) {
                reads(cut, items);
            } else {
                fault(cut, n);
            }
        }
        Desk.due("items of it all", items, 6);
    }

    /** Each byte behind a number, behind a word, and alone. */
    private static void everyByte() {
        Desk.part("promise 7, bytes");
        for (int b = 0; b < 128; b++) {
            char c = (char) b;
            String behindNumber = "hall 0 0 0 0 0" + c + ";";
            String behindWord = "hall" + c + " 0 0 0 0 0;";
            if (b == 32) {
                reads(behindNumber, 1);
                reads(behindWord, 1);
                reads(HALL + c, 1);
                continue;
            }
            fault(HALL + c, 15);
            if (b >= '0' && b <= '5') {
                reads(behindNumber, 1);
                fault(behindWord, 14);
            } else if (b >= '6' && b <= '9') {
                fault(behindNumber, 13);
                fault(behindWord, 4);
            } else if (b >= 'a' && b <= 'z') {
                fault(behindNumber, 14);
                fault(behindWord, 0);
            } else {
                fault(behindNumber, b == ';' ? 15 : 14);
                fault(behindWord, 4);
            }
        }
    }

    private static void words() {
        Desk.part("promise 7, words");
        String[] items = {"hall 0 0 0 0 0;", "soul 0 0;", "coat 0;", "sit 0 0;", "out 0;", "minutes 5;"};
        String[] ahead = {"", HALL, HALL, HALL + "soul 0 0;", HALL + "soul 0 0;sit 0 0;", HALL};
        for (int n = 0; n < items.length; n++) {
            reads(ahead[n] + items[n], n == 0 ? 1 : n < 3 || n == 5 ? 2 : n);
            int length = items[n].indexOf(' ');
            int at = ahead[n].length();
            for (int k = 0; k < length; k++) {
                String start = items[n].substring(0, k);
                String rest = items[n].substring(k + 1);
                char c = items[n].charAt(k);
                fault(ahead[n] + start + (char) (c == 'z' ? 'a' : c + 1) + rest, at);
                fault(ahead[n] + start + (char) (c - 32) + rest, at);
                fault(ahead[n] + start + rest, at);
                fault(ahead[n] + start + c + c + rest, at);
            }
            fault(ahead[n] + "a" + items[n], at);
        }
        fault(HALL + "halls 0 0 0 0 0;", 15);
        fault(HALL + "a;", 15);
        fault(HALL + "z", 15);
        fault(HALL + "seat 0;", 15);
        fault(HALL + "soulsoul 0 0;", 15);
        fault(HALL + "zzzzzzzzzzzzzzzzzzzzzzzzzzzzzzzzzzzzzzzzzz", 15);
    }

    private static void aheadOfHall() {
        Desk.part("promise 7, ahead of hall");
        String[] ahead = {"soul 0 0;", "coat 0;", "sit 0 0;", "out 0;", "minutes 5;", ";", "0", "00", "000", "x", "!"};
        for (String item : ahead) {
            fault(item, 0);
            fault(item + HALL, 0);
            fault("  " + item + " " + HALL, 2);
        }
    }

    private static void hallAgain() {
        Desk.part("promise 7, hall again");
        fault(HALL + HALL, 15);
        fault(HALL + " hall", 16);
        fault(HALL + "soul 0 0;" + HALL, 24);
        fault(HALL + "minutes 5; hall 9 9 9 9 9;", 26);
    }

    private static void eighthSoul() {
        Desk.part("promise 7, an eighth soul");
        String seven = HALL + "soul 0 0;".repeat(7);
        reads(seven, 8);
        fault(seven + "soul 0 0;", 78);
        fault(seven + "soul", 78);
        fault(seven + "  soul 6 30;", 80);
        fault(seven + "coat 0;soul 0 0;", 85);
        reads(seven + "sit 6 0;", 9);
        fault(seven + "sit 7 0;", 82);
    }

    /** 1 or 2 figures are a number; a run of three or more is none, wherever it stands. */
    private static void figures() {
        Desk.part("promise 7, figures");
        reads("hall 00 01 02 03 05;", 1);
        reads(HALL + "soul 05 09;coat 08;minutes 01;", 4);
        fault("hall 000 0 0 0 0;", 5);
        fault("hall 0 0 0 0 005;", 13);
        fault("hall 0000 0 0 0 0;", 5);
        fault("hall 0 0 0 0 0 000;", 15);
        fault("hall 0 0 0 0 0; 123", 16);
        fault("123 " + HALL, 0);
        fault(HALL + "minutes 001;", 23);
        fault(HALL + "minutes 099;", 23);
        fault(HALL + "coat 029;", 20);
        fault(HALL + "soul 0 003;", 22);
        fault(HALL + "minutes 4294967297;", 23);
        fault(HALL + "minutes 18446744073709551617;", 23);
        fault(HALL + "minutes " + "0".repeat(126), 23);
    }

    private static void numbersOfItems() {
        Desk.part("promise 7, numbers");
        for (int r = 0; r < 5; r++) {
            numberAt("hall " + "0 ".repeat(r), " 0".repeat(4 - r) + ";", 0, 5, 1);
        }
        numberAt(HALL + "soul ", " 0;", 0, 5, 2);
        numberAt(HALL + "soul 0 ", ";", 0, 29, 2);
        numberAt(HALL + "coat ", ";", 0, 29, 2);
        numberAt(TWO + "sit ", " 0;", 0, 1, 4);
        numberAt(TWO + "sit 0 ", ";", 0, 29, 4);
        numberAt(TWO + "sit 0 0;sit 1 1;out ", ";", 0, 1, 6);
        numberAt(HALL + "minutes ", ";", 1, 99, 2);
    }

    private static void numberAt(String ahead, String behind, int least, int most, int items) {
        int at = ahead.length();
        for (int n = 0; n <= 100; n++) {
            if (n >= least && n <= most) {
                reads(ahead + n + behind, items);
            } else {
                fault(ahead + n + behind, at);
            }
        }
        fault(ahead + "-1" + behind, at);
        fault(ahead + "a" + behind, at);
        fault(ahead + ";" + behind, at);
        fault(ahead + "  ;" + behind, at + 2);
        fault(ahead, at);
    }

    private static void soulsThatCanNot() {
        Desk.part("promise 7, souls");
        fault(HALL + "sit 0 0;", 19);
        fault(HALL + "out 0;", 19);
        fault(HALL + "sit 0 0;soul 0 0;", 19);
        fault(TWO + "sit 2 0;", 37);
        fault(TWO + "out 2;", 37);
        fault(TWO + "sit 0 3;sit 0 4;", 45);
        fault(TWO + "sit 0 3;sit 0 3;", 45);
        fault(TWO + "sit 0 3;out 1;", 45);
        fault(TWO + "out 0;", 37);
        fault(TWO + "sit 0 3;out 0;out 0;", 51);
        reads(TWO + "sit 0 3;out 0;sit 0 3;out 0;", 7);
    }

    private static void cellsThatCanNot() {
        Desk.part("promise 7, cells");
        fault(TWO + "sit 0 3;sit 1 3;", 47);
        fault(TWO + "sit 0 0;sit 1 0;", 47);
        fault(TWO + "coat 3;sit 0 3;", 46);
        fault(TWO + "coat 29;sit 0 29;", 47);
        fault(TWO + "sit 0 3;coat 3;", 46);
        fault(TWO + "sit 0 29;coat 29;", 47);
        fault(TWO + "coat 3;coat 3;", 45);
        fault(TWO + "coat 0;coat 00;", 45);
        reads(TWO + "sit 0 3;out 0;coat 3;", 6);
        reads(TWO + "sit 0 3;out 0;sit 1 3;", 6);
        reads(TWO + "coat 3;sit 0 2;sit 1 4;", 6);
        reads(TWO + "coat 2;coat 4;sit 0 3;", 6);
        // Stubs may be alike, kept by a coat, or under somebody.
        reads(HALL + "soul 0 3;soul 0 3;coat 3;soul 0 3;", 5);
        reads(HALL + "soul 0 3;sit 0 3;soul 0 3;", 4);
    }

    private static void tokensOutOfPlace() {
        Desk.part("promise 7, tokens out of place");
        fault("hall;", 4);
        fault("hall 0 0 0 0;", 12);
        fault("hall 0 0 0 0 0 0;", 15);
        fault("hall 0 0 0 0 0 soul 0 0;", 15);
        fault("hall 0 0 0 0 soul;", 13);
        fault("hall hall 0 0 0 0 0;", 5);
        fault(HALL + ";", 15);
        fault(HALL + "0;", 15);
        fault(HALL + "soul 0;", 21);
        fault(HALL + "soul 0 0 0;", 24);
        fault(HALL + "soul 0 0 coat 0;", 24);
        fault(HALL + "soul 0 soul;", 22);
        fault(HALL + "coat;", 19);
        fault(HALL + "coat 0 0;", 22);
        fault(TWO + "sit 0;", 38);
        fault(TWO + "sit 0 0 0;", 41);
        fault(TWO + "sit 0 0;out 0 0;", 47);
        fault(HALL + "minutes;", 22);
        fault(HALL + "minutes 1 1;", 25);
        fault(HALL + "minutes 1 coat 0;", 25);
        fault("hall 0,0,0,0,0;", 6);
        fault("hall 0 0 0 0 0.", 14);
    }

    private static void firstFaultCounts() {
        Desk.part("promise 7, the first fault");
        fault(TWO + "sit 2 30;", 37);
        fault(TWO + "sit 0 3;sit 0 3 3 !", 45);
        fault(HALL + "soul 6 30;", 20);
        fault(HALL + "soul 0 30!", 22);
        fault(HALL + "coat 30", 20);
        fault(HALL + "coat 3 !;coat 3;", 22);
        fault("hall 6 6 6 6 6", 5);
        fault("hall 0 6 ! 000", 7);
        fault(HALL + "out 0", 19);
        fault(HALL + "! !", 15);
    }

    private static void blanks() {
        Desk.part("promise 7, blanks");
        reads("  hall  0  0  0  0  0  ;  soul  0  3  ;  sit  0  3  ;  ", 3);
        // Where tokens part without them, blanks may be left out.
        reads("hall0 0 0 0 0;soul0 3;sit0 3;out0;coat3;minutes9;", 6);
        fault("ha ll 0 0 0 0 0;", 0);
        fault("hall 0 0 0 00;", 13);
        fault("hall\t0 0 0 0 0;", 4);
        fault("hall 0 0 0 0 0;\n", 15);
        fault(HALL + "min utes 5;", 15);
    }

    private static void items() {
        Desk.part("promise 7, items");
        UsherRows x = with("hall0 0 0 0 0;soul1 0;" + "sit0 0;out0;".repeat(10) + "coat1;  ");
        Desk.due("bytes", x.count(9), 150);
        Desk.due("twenty-three items", x.read(), 23);
        Desk.due("minutes", x.count(3), 20);
        Desk.due("a restless one's fuss", x.count(4), 40);
        Desk.due("coats", x.count(2), 1);
        Desk.due("nobody sits", x.count(1), 0);
        Desk.due("nothing to undo", x.count(8), 0);
        x = with("hall 0 0 0 0 0;" + "coat 0;coat 5;coat 6;coat 23;coat 24;coat 29;");
        Desk.due("coats", x.read(), 7);
        Desk.due("on the first and the last of rows", x.about(0, 2) + x.about(5, 2) + x.about(6, 2) + x.about(23, 2)
            + x.about(24, 2) + x.about(29, 2), 6);
        Desk.due("coats", x.count(2), 6);
    }

    private static void minutesOfText() {
        Desk.part("promise 7, minutes");
        UsherRows x = with("hall0 0 0 0 0;" + "minutes99;".repeat(13));
        Desk.due("fourteen items", x.read(), 14);
        Desk.due("minute", x.count(3), 1287);
        String late = HALL + "soul 0 0;soul 2 1;sit 0 0;minutes ";
        x = with(late + "8;sit 1 1;");
        x.read();
        Desk.due("late in minute 9", x.count(4), 1);
        Desk.due("minute", x.count(3), 10);
        x = with(late + "9;sit 1 1;");
        x.read();
        Desk.due("late in minute 10", x.count(4), 2);
        x = with(late + "7;sit 1 1;out 1;");
        x.read();
        Desk.due("late in minutes 8 and 9", x.count(4), 2);
        x = with(late + "8;sit 1 1;out 1;");
        x.read();
        Desk.due("late in minutes 9 and 10", x.count(4), 3);
        x = with(late + "8;coat 5;sit 1 1;");
        x.read();
        Desk.due("a coat takes no minute", x.count(4), 1);
    }

    private static void whatItTakesThePlaceOf() {
        Desk.part("promise 7, a new hall");
        UsherRows x = Desk.sitting(7);
        x.minutes(30);
        x.clear();
        Desk.type(x, "hall 5 4 3 2 1;soul 3 9;soul 1 6;coat 1;sit 0 7;");
        Desk.due("read", x.read(), 5);
        long[] counts = {2, 1, 1, 1, 0, 0, 0, 0, 0, 48};
        for (int what = 0; what < 10; what++) {
            Desk.due("count(" + what + ")", x.count(what), counts[what]);
        }
        for (int r = 0; r < 5; r++) {
            Desk.due("kind of row " + r, x.about(6 * r, 0), 5 - r);
        }
        Desk.due("kind, stub, cell of 0", x.of(0, 0) * 10000 + x.of(0, 1) * 100 + x.of(0, 2), 30907);
        Desk.due("kind, stub, cell of 1", x.of(1, 0) * 10000 + x.of(1, 1) * 100 + x.of(1, 2), 10599);
        Desk.due("soul 2 is not there", x.of(2, 0), -2);
        Desk.due("who sits in 0", x.about(0, 1), -1);
        Desk.due("coat on 8", x.about(8, 2), 0);
        Desk.due("of row 1", x.is(1), 63);
        Desk.due("of soul 1", x.kinds(1), 63);
        Desk.due("nothing to undo", x.undo(), -3);
        Desk.due("the next soul", x.soul(0, 0), 2);
        Desk.due("a hall alone", told(x, "hall 0 0 0 0 0;"), 1);
        for (int what = 0; what < 9; what++) {
            Desk.due("count(" + what + ")", x.count(what), 0);
        }
    }

    private static int told(UsherRows x, String text) {
        x.clear();
        Desk.type(x, text);
        return x.read();
    }

    private static void whatStays() {
        Desk.part("promise 7, what stays");
        UsherRows x = Desk.out(7);
        Desk.due("read", x.read(), 3);
        long once = x.digest();
        Desk.due("the text", x.count(9), 31);
        Desk.due("the fraction", x.part(0) * 10 + x.part(1), 21);
        Desk.due("BAD, NO, FULL", x.status(0) * 100 + x.status(1) * 10 + x.status(2), 110);
        Desk.due("read again", x.read(), 3);
        Desk.due("as it was", x.digest(), once);
        Desk.due("the image", x.from(0), 1);
        Desk.due("its souls", x.count(0), 7);
        Desk.due("its minute", x.count(3), 4);
        Desk.due("what it may undo", x.undo(), 0);
        Desk.due("the other image", x.from(1), -3);
        x.type(59);
        Desk.due("one byte more", x.read(), -10 - 31);
        Desk.due("all stays", x.count(0), 7);
        x.hall();
        Desk.due("hall leaves the text", x.count(9), 32);
        Desk.due("fault again", x.read(), -10 - 31);
        x.clear();
        Desk.due("cleared", x.read(), -10);
    }
}
