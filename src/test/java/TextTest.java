/** Promises 1 to 5, and what a text is and which faults it may have. */
public final class TextTest {
    private static final String HEAD = "tanker 9 0 0 0 0 0 1 0 0;";

    public static void main(String[] args) {
        newObject();
        feed();
        end();
        goodTexts();
        tokens();
        numbers();
        headNumbers();
        lineNumbers();
        linesTooMany();
        longTexts();
        faultsLeaveAll();
        emptyTexts();
        Check.finish();
    }

    private static void fails(String text, int place, int kind) {
        TankerDesk desk = new TankerDesk();
        Check.due("text() of '" + text + "'", Check.tell(desk, text), -1 - place);
        Check.due("fault() of '" + text + "'", desk.fault(), kind);
        Check.due("tape behind '" + text + "'", desk.now(9), 0);
    }

    private static void reads(String text, int lines) {
        TankerDesk desk = new TankerDesk();
        Check.due("text() of '" + text + "'", Check.tell(desk, text), lines);
        Check.due("fault() of '" + text + "'", desk.fault(), 0);
        Check.due("tape behind '" + text + "'", desk.now(9), 0);
    }

    private static String times(String part, int n) {
        return part.repeat(n);
    }

    private static void newObject() {
        TankerDesk desk = new TankerDesk();
        for (int what = 0; what <= 9; what++) {
            Check.due("new: now(" + what + ")", desk.now(what), 0);
        }
        Check.due("new: fault()", desk.fault(), 0);
        Check.due("new: orders()", desk.orders(), 1);
        Check.due("new: plan(0)", desk.plan(0), 0);
        Check.due("new: washes()", desk.washes(), 0);
        Check.due("new: undo()", desk.undo(), -1);
        Check.due("new: drop", Check.drop(desk, 0, 0), Check.THROWN);
        // W is 1 at first, so an empty text is lawful too.
        Check.due("new: text()", desk.text(), 0);
        Check.due("new: now(6)", desk.now(6), 0);
    }

    private static void feed() {
        TankerDesk desk = new TankerDesk();
        for (int size = 20; size <= 740; size += 20) {
            Check.due("feed", desk.feed(0x20202020, 0x0a0a0a0a, 0x20202020, 0x0a0a0a0a, 0x20202020), size);
        }
        Check.due("feed beyond 740", desk.feed(0, 0, 0, 0, 0), -1);
        Check.due("now(9)", desk.now(9), 740);
        Check.due("end(721)", desk.end(721), true);
        Check.due("feed beyond 740", desk.feed(0, 0, 0, 0, 0), -1);
        Check.due("now(9)", desk.now(9), 721);
        Check.due("end(720)", desk.end(720), true);
        Check.due("feed to 740", desk.feed(-1, -1, -1, -1, -1), 740);
        Check.due("end(700)", desk.end(700), true);
        Check.due("text() of blanks", desk.text(), 0);
        // The highest byte comes first, and each number has four.
        desk = new TankerDesk();
        desk.feed(0x74616e6b, 0x65722039, 0x20302030, 0x20302030, 0x20302031);
        desk.feed(0x20302030, 0x3bffffff, -1, -1, -1);
        desk.end(25);
        Check.due("bytes in order", desk.text(), 1);
    }

    private static void end() {
        TankerDesk desk = new TankerDesk();
        Check.due("end(0)", desk.end(0), true);
        Check.due("end(1)", desk.end(1), false);
        desk.feed(1, 2, 3, 4, 5);
        Check.due("end(21)", desk.end(21), false);
        Check.due("end(-1)", desk.end(-1), false);
        Check.due("end(least)", desk.end(Integer.MIN_VALUE), false);
        Check.due("end(most)", desk.end(Integer.MAX_VALUE), false);
        Check.due("now(9)", desk.now(9), 20);
        Check.due("end(20)", desk.end(20), true);
        Check.due("end(7)", desk.end(7), true);
        Check.due("now(9)", desk.now(9), 7);
        Check.due("end(8)", desk.end(8), false);
        Check.due("feed behind 7", desk.feed(1, 2, 3, 4, 5), 27);
    }

    private static void goodTexts() {
        reads("", 0);
        reads(HEAD, 1);
        reads(" \n tanker\n9 0 0 0 0 0 1 0 0 \n;\n ", 1);
        reads("tanker 0099 0000 09999 ;".replace("09999 ", "9999 9999 9999 9999 100 100 100"), 1);
        reads(HEAD + "compartment 1 0 open;compartment 999 99 baffled;liquid 20;last 0 0;bar 0 0;drop 0 4995;", 7);
        reads(HEAD + "liquid 1;liquid 20;bar 1 0;drop 1 1;compartment 5 5 open;last 0 1;", 7);
        TankerDesk desk = Check.desk(HEAD + "compartment 7 8 baffled;compartment 9 10 open;liquid 3;liquid 4;last 1 0;last 1 1;drop 1 12;");
        Check.due("compartments", desk.now(0), 2);
        Check.due("liquids", desk.now(1), 2);
        Check.due("drops", desk.now(2), 1);
        Check.due("a later last", desk.compartment(1, 6), 1);
        Check.due("no last", desk.compartment(0, 6), -1);
    }

    private static void tokens() {
        fails("x", 0, 1);
        fails(";", 0, 1);
        fails("1", 0, 1);
        fails("Tanker 9 0 0 0 0 0 1 0 0;", 0, 1);
        fails("tankers 9 0 0 0 0 0 1 0 0;", 0, 1);
        fails("tanke 9 0 0 0 0 0 1 0 0;", 0, 1);
        fails("tanker9 0 0 0 0 0 1 0 0;", 0, 1);
        fails("tanker 9a 0 0 0 0 0 1 0 0;", 7, 1);
        fails("tanker 9 0 0 0 0 0 1 0 0 0;", 25, 1);
        fails("tanker 9 0 0 0 0 0 1 0;", 22, 1);
        fails("tanker;", 6, 1);
        fails("tanker 9\t0 0 0 0 0 1 0 0;", 8, 1);
        fails("tanker 9,0 0 0 0 0 1 0 0;", 8, 1);
        fails("tanker -9 0 0 0 0 0 1 0 0;", 7, 1);
        fails("tanker \u00b2 0 0 0 0 0 1 0 0;", 7, 1);
        fails("tanker 9 0 0 0 0 0 1 0 0", 24, 1);
        fails("tanker 9 0 0 0 0 0 1 0 0  \n", 27, 1);
        fails("tanker", 6, 1);
        fails("liquid 1;", 0, 1);
        fails(HEAD + ";", 25, 1);
        fails(HEAD + HEAD, 25, 1);
        fails(HEAD + " 5;", 26, 1);
        fails(HEAD + "open;", 25, 1);
        fails(HEAD + "\u0000", 25, 1);
        fails(HEAD + "\u00ff", 25, 1);
        fails(HEAD + "liquid;", 31, 1);
        fails(HEAD + "liquid 1 1;", 34, 1);
        fails(HEAD + "liquid one;", 32, 1);
        fails(HEAD + "liquid 1:", 33, 1);
        fails(HEAD + "compartment 1 1;", 40, 1);
        fails(HEAD + "compartment 1 1 1;", 41, 1);
        fails(HEAD + "compartment 1 1 opened;", 41, 1);
        fails(HEAD + "compartment 1 1 ope;", 41, 1);
        fails(HEAD + "compartment 1 1 baffle;", 41, 1);
        fails(HEAD + "compartment 1 1open;", 39, 1);
        fails(HEAD + "compartment 1 1 open baffled;", 46, 1);
        fails(HEAD + "compartment 1 1 ", 41, 1);
    }

    private static void numbers() {
        fails("tanker 00009 0 0 0 0 0 1 0 0;", 7, 1);
        fails("tanker 99999999999 0 0 0 0 0 1 0 0;", 7, 1);
        fails("tanker 4294967297 0 0 0 0 0 1 0 0;", 7, 1);
        reads("tanker 0009 0 0 0 0 0 1 0 0;", 1);
        // A word is no number that is not as told, and the first fault along the text is named.
        fails("tanker 100 x 0 0 0 0 1 0 0;", 7, 2);
        fails("tanker 9 x 0 0 0 0 101 0 0;", 9, 1);
    }

    private static void headNumbers() {
        fails("tanker 0 0 0 0 0 0 1 0 0;", 7, 2);
        fails("tanker 100 0 0 0 0 0 1 0 0;", 7, 2);
        reads("tanker 99 9999 9999 9999 9999 9999 100 100 100;", 1);
        reads("tanker 1 0 0 0 0 0 1 0 0;", 1);
        fails("tanker 9 0 0 0 0 0 0 0 0;", 19, 2);
        fails("tanker 9 0 0 0 0 0 101 0 0;", 19, 2);
        fails("tanker 9 0 0 0 0 0 1 101 101;", 21, 2);
        fails("tanker 9 0 0 0 0 0 1 100 101;", 25, 2);
        fails("tanker 9 0 0 0 0 0 1 50 49;", 24, 2);
        reads("tanker 9 0 0 0 0 0 1 50 50;", 1);
        reads("tanker 9 0 0 0 0 0 1 0 100;", 1);
    }

    private static void lineNumbers() {
        fails(HEAD + "compartment 0 0 open;", 37, 2);
        fails(HEAD + "compartment 1000 0 open;", 37, 2);
        fails(HEAD + "compartment 1 100 open;", 39, 2);
        fails(HEAD + "liquid 0;", 32, 2);
        fails(HEAD + "liquid 21;", 32, 2);
        fails(HEAD + "liquid 1;bar 1 0;", 38, 2);
        fails(HEAD + "liquid 1;bar 0 1;", 40, 2);
        fails(HEAD + "bar 0 0;liquid 1;", 29, 2);
        fails(HEAD + "liquid 1;last 0 0;", 39, 2);
        fails(HEAD + "compartment 1 1 open;last 0 0;", 53, 2);
        fails(HEAD + "compartment 1 1 open;liquid 1;last 1 0;", 60, 2);
        fails(HEAD + "drop 0 1;", 30, 2);
        fails(HEAD + "liquid 1;drop 1 1;", 39, 2);
        fails(HEAD + "liquid 1;drop 0 0;", 41, 2);
        fails(HEAD + "liquid 1;drop 0 4996;", 41, 2);
        fails(HEAD + "liquid 1;drop 0 9999;", 41, 2);
    }

    private static void linesTooMany() {
        String compartments = HEAD + times("compartment 1 1 open;", 5);
        reads(compartments, 6);
        fails(compartments + "compartment", compartments.length(), 3);
        String liquids = HEAD + times("liquid 1;", 6);
        reads(liquids, 7);
        fails(liquids + " liquid 99;", liquids.length() + 1, 3);
        String bars = liquids + times("bar 0 1;", 36);
        reads(bars, 43);
        fails(bars + "bar 0 0;", bars.length(), 3);
        Check.due("bars told twice", Check.desk(bars).now(3), 1);
        String lasts = HEAD + "liquid 1;compartment 1 1 open;" + times("last 0 0;", 20);
        reads(lasts, 23);
        fails(lasts + "last 0 0;", lasts.length(), 3);
        String drops = HEAD + "liquid 1;" + times("drop 0 1;", 4);
        reads(drops, 6);
        fails(drops + "drop 0 1;", drops.length(), 3);
        fails(drops + "drops 0 1;", drops.length(), 1);
    }

    private static void longTexts() {
        int head = HEAD.length();
        reads(HEAD + times(" ", 700 - head), 1);
        fails(HEAD + times(" ", 701 - head), 700, 1);
        fails(HEAD + times(" ", 740 - head), 700, 1);
        fails(times(" ", 701), 700, 1);
        reads(times("\n", 700), 0);
        // 700 bytes of a line that does not end.
        fails("tanker" + times(" ", 694), 700, 1);
        fails("tanker" + times(" ", 710), 700, 1);
        String to690 = HEAD + times(" ", 690 - head);
        reads(to690 + "liquid  1;", 2);
        fails(to690 + "liquid   1;", 700, 1);
        fails(to690 + "liquid  1 ;", 700, 1);
        fails(to690 + "liquid    1;", 700, 1);
        // Tokens that begin ahead of 700 are read whole.
        fails(to690 + "liquid 21 ;", 697, 2);
        fails(to690 + "liquid  20;", 700, 1);
        fails(to690 + "liquid  21;", 698, 2);
        fails(to690 + "liquid  123456;", 698, 1);
        fails(to690 + "liquid   1234;", 699, 2);
        fails(to690 + "liquid   12345;", 699, 1);
        fails(to690 + "liquid    99;", 700, 1);
        fails(to690 + "       liquids", 697, 1);
        fails(to690 + "       liquid 1;", 700, 1);
        fails(to690 + "         liquid", 700, 1);
        fails(to690 + "         ?", 699, 1);
        fails(to690 + "          ?", 700, 1);
        String lines = HEAD + times("liquid 1;", 6);
        fails(lines + times(" ", 699 - lines.length()) + "liquid 1;", 699, 3);
        fails(lines + times(" ", 700 - lines.length()) + "liquid 1;", 700, 1);
    }

    private static void faultsLeaveAll() {
        TankerDesk desk = Check.desk("tanker 10 5 6 0 9999 9999 90 10 20;compartment 50 5 open;liquid 2;bar 0 0;drop 0 45;");
        Check.due("put", desk.put(0, 0), 45);
        String before = Check.picture(desk);
        Check.due("a faulty text", Check.tell(desk, "tanker 7 1 1 1 1 1 1 1 1;compartment 3 3 open;liquid 9;drop 0 5;last 0 0;bar 0 0;bar 1 0;"), -86);
        Check.due("fault()", desk.fault(), 2);
        Check.due("fault() again", desk.fault(), 2);
        Check.due("another what is asked, the fault stays", desk.now(9), 0);
        Check.due("only the fault is new", Check.picture(desk).equals(before.substring(0, before.length() - 1) + "2"), true);
        Check.due("undo() is left", desk.undo(), 0);
        Check.due("an unlike fault", Check.tell(desk, "?"), -1);
        Check.due("fault()", desk.fault(), 1);
        Check.due("a text", Check.tell(desk, HEAD), 1);
        Check.due("fault()", desk.fault(), 0);
    }

    private static void emptyTexts() {
        String fresh = Check.picture(new TankerDesk());
        TankerDesk desk = Check.desk("tanker 10 5 6 7 8 9 90 10 20;compartment 50 5 open;liquid 2;bar 0 0;last 0 0;drop 0 45;");
        desk.wash(0);
        desk.put(0, 0);
        Check.due("an empty text", desk.text(), 0);
        Check.due("as at first", Check.picture(desk).equals(fresh), true);
        Check.due("nothing can be undone", desk.undo(), -1);
        desk = Check.desk("tanker 10 5 6 7 8 9 90 10 20;");
        Check.due("a text of blanks", Check.tell(desk, " \n"), 0);
        Check.due("as at first", Check.picture(desk).equals(fresh), true);
        // A new text: what lay in the compartments, what was asked for, washed and last is gone.
        String text = "tanker 10 5 6 0 9999 9999 90 10 20;compartment 50 5 open;compartment 40 5 open;liquid 2;last 1 0;drop 0 45;";
        desk = Check.desk(text);
        String first = Check.picture(desk);
        desk.put(0, 0);
        desk.asks(0, 3);
        desk.wash(1);
        Check.due("unload", desk.unload(0, 40), 5);
        Check.due("it is not as first", Check.picture(desk).equals(first), false);
        Check.due("the text again", Check.tell(desk, text), 6);
        Check.due("as told first", Check.picture(desk).equals(first), true);
        Check.due("nothing can be undone", desk.undo(), -1);
    }
}
