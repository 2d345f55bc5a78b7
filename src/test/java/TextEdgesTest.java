/** One test for each sentence of the document that names a boundary case of the tape, the text and its faults. */
public final class TextEdgesTest {
    private static final int LEAST = Integer.MIN_VALUE;
    private static final int MOST = Integer.MAX_VALUE;
    private static final String HEAD = "tanker 9 0 0 0 0 0 1 0 0;";
    private static final String TOLD = HEAD + "compartment 5 5 open;compartment 6 6 baffled;liquid 3;liquid 4;";

    public static void main(String[] args) {
        newObjectIsEmpty();
        highestByteFirst();
        feedStopsAt740();
        endCutsWithinTheTape();
        textEmptiesTheTape();
        textCountsLines();
        emptyTextIsAsAtFirst();
        faultIsOfTheLatestText();
        faultyTextLeavesAll();
        newTextEmptiesAll();
        blanksAreTwo();
        blanksNeedNotBe();
        wordsAreSmallLetters();
        numbersHaveFourDigits();
        runsGoOnThroughLettersAndDigits();
        onlyOneSign();
        tankerComesFirstAndOnce();
        tankerNumbers();
        highBeginsAtLow();
        compartmentNumbers();
        openOrBaffled();
        liquidNumbers();
        barNumbers();
        lastNumbers();
        dropNumbers();
        fiveCompartments();
        sixLiquids();
        thirtySixBars();
        twentyLasts();
        fourDrops();
        barToldTwiceIsOne();
        laterLastTakesThePlace();
        firstFaultAlongTheText();
        firstKindOfOneToken();
        faultAtTheEnd();
        sevenHundredBytes();
        faultAheadOf700();
        tokensAheadOf700AreReadWhole();
        Check.finish();
    }

    private static void fails(String text, int place, int kind) {
        TankerDesk desk = new TankerDesk();
        Check.due("text() of '" + text + "'", Check.tell(desk, text), -1 - place);
        Check.due("fault() of '" + text + "'", desk.fault(), kind);
    }

    private static void reads(String text, int lines) {
        TankerDesk desk = new TankerDesk();
        Check.due("text() of '" + text + "'", Check.tell(desk, text), lines);
        Check.due("fault() of '" + text + "'", desk.fault(), 0);
    }

    private static String padded(String text, int size) {
        return text + " ".repeat(size - text.length());
    }

    /** "W 1, all other numbers 0 (FILL, HIGH, too), nothing else told; an empty tape." */
    private static void newObjectIsEmpty() {
        TankerDesk desk = new TankerDesk();
        for (int what = 0; what <= 9; what++) {
            Check.due("new: now(" + what + ")", desk.now(what), 0);
        }
        Check.due("new: no compartment", desk.compartment(0, 0), -1);
        Check.due("new: no drop", Check.drop(desk, 0, 0), Check.THROWN);
        Check.due("new: no liquid", desk.asks(0, 1), -1);
        Check.due("new: end(0)", desk.end(0), true);
        Check.due("new: end(1)", desk.end(1), false);
    }

    /** "Twenty bytes come behind the tape, of each number the highest first". */
    private static void highestByteFirst() {
        TankerDesk desk = new TankerDesk();
        Check.due("feed", desk.feed(0x74616e6b, 0x65722039, 0x20302030, 0x20302030, 0x20302031), 20);
        Check.due("feed", desk.feed(0x20302030, 0x3b800000, LEAST, -1, MOST), 40);
        Check.due("end(25)", desk.end(25), true);
        Check.due("text()", desk.text(), 1);
        // The highest bit of a byte is no sign: 0xbb is not ';', 0xa0 is no blank.
        Check.tape(desk, "tanker 9 0 0 0 0 0 1 0 0");
        desk.feed(0xbb202020, 0x20202020, 0x20202020, 0x20202020, 0x20202020);
        Check.due("0xbb", desk.text(), -1 - 24);
        desk.feed(0xa0202020, 0x20202020, 0x20202020, 0x20202020, 0x20202020);
        Check.due("0xa0", desk.text(), -1);
        // The lowest byte of the last number is the twentieth.
        desk.feed(0x20202020, 0x20202020, 0x20202020, 0x20202020, 0x2020203f);
        Check.due("the twentieth byte", desk.text(), -1 - 19);
    }

    /** "NONE, and none come, if it would have more than 740." */
    private static void feedStopsAt740() {
        TankerDesk desk = new TankerDesk();
        for (int size = 20; size <= 740; size += 20) {
            Check.due("feed", desk.feed(0, 0, 0, 0, 0), size);
        }
        for (int cut = 740; cut > 720; cut--) {
            Check.due("end(" + cut + ")", desk.end(cut), true);
            Check.due("feed behind " + cut, desk.feed(0, 0, 0, 0, 0), -1);
            Check.due("none come behind " + cut, desk.now(9), cut);
        }
        Check.due("end(720)", desk.end(720), true);
        Check.due("feed behind 720", desk.feed(0, 0, 0, 0, 0), 740);
    }

    /** "The tape has its first n bytes alone: true; false, if it has not so many, or n is below 0." */
    private static void endCutsWithinTheTape() {
        TankerDesk desk = new TankerDesk();
        Check.tape(desk, HEAD + "??");
        int[] refused = {28, 29, 740, 741, MOST, -1, -2, LEAST};
        for (int n : refused) {
            Check.due("end(" + n + ")", desk.end(n), false);
            Check.due("the tape behind end(" + n + ")", desk.now(9), 27);
        }
        Check.due("end of all", desk.end(27), true);
        Check.due("end(25)", desk.end(25), true);
        Check.due("the tape", desk.now(9), 25);
        Check.due("what was cut is gone", desk.end(26), false);
        Check.tape(desk, "liquid 1;");
        Check.due("bytes come behind the cut", desk.now(9), 34);
        Check.due("the first bytes stay", desk.text(), 2);
        Check.tape(desk, "?");
        Check.due("end(0)", desk.end(0), true);
        Check.due("an empty tape", desk.text(), 0);
    }

    /** "The tape (empty then, even with a FAULT) is a TEXT". */
    private static void textEmptiesTheTape() {
        TankerDesk desk = new TankerDesk();
        Check.due("text()", Check.tell(desk, HEAD), 1);
        Check.due("empty behind a text", desk.now(9), 0);
        Check.due("a fault", Check.tell(desk, HEAD + "?"), -1 - 25);
        Check.due("empty behind a fault", desk.now(9), 0);
        Check.due("end(1)", desk.end(1), false);
        Check.due("bytes come first again", desk.feed(0x20202020, 0x20202020, 0x20202020, 0x20202020, 0x20202020), 20);
    }

    /** "how many LINES; -1 less the place of a FAULT". */
    private static void textCountsLines() {
        reads(HEAD, 1);
        reads(HEAD + "liquid 1;", 2);
        reads(TOLD + "bar 0 0;bar 0 0;last 0 0;drop 0 1;", 9);
        fails("?", 0, 1);
        fails(" ?", 1, 1);
        // Lines told twice count twice.
        String bars = HEAD + "liquid 1;" + "bar 0 0;".repeat(36);
        reads(bars, 38);
        reads(bars + "drop 0 1;".repeat(4) + "compartment 1 1 open;last 0 0;", 44);
    }

    /** "(an empty one: as at first)". */
    private static void emptyTextIsAsAtFirst() {
        String fresh = Check.wholePicture(new TankerDesk());
        String[] empty = {"", " ", "\n", " \n".repeat(350)};
        for (String text : empty) {
            TankerDesk desk = Check.desk("tanker 9 1 2 3 4 5 90 10 20;compartment 5 5 open;liquid 3;bar 0 0;last 0 0;drop 0 4;");
            Check.due("wash", desk.wash(0), true);
            Check.due("an empty text", Check.tell(desk, text), 0);
            Check.due("fault()", desk.fault(), 0);
            Check.due("as at first", Check.wholePicture(desk).equals(fresh), true);
        }
        // Once more, and behind another text: nothing of the earlier ones is left.
        TankerDesk often = Check.desk("tanker 9 1 2 3 4 5 90 10 20;compartment 5 5 open;liquid 3;bar 0 0;last 0 0;drop 0 4;");
        for (int i = 0; i < 3; i++) {
            Check.due("an empty text", often.text(), 0);
            Check.due("as at first", Check.wholePicture(often).equals(fresh), true);
        }
        // Behind a fault the tape is empty: the next text() reads an empty one.
        TankerDesk desk = Check.desk(TOLD);
        Check.due("a fault", Check.tell(desk, "?"), -1);
        Check.due("text() once more", desk.text(), 0);
        Check.due("as at first", Check.wholePicture(desk).equals(fresh), true);
    }

    /** "The kind of the FAULT of the latest text(); 0 without one and ahead of any." */
    private static void faultIsOfTheLatestText() {
        TankerDesk desk = new TankerDesk();
        Check.due("ahead of any", desk.fault(), 0);
        Check.tape(desk, "?");
        Check.due("ahead of text()", desk.fault(), 0);
        desk.text();
        Check.due("kind 1", desk.fault(), 1);
        Check.tell(desk, HEAD + "liquid 0;");
        Check.due("kind 2", desk.fault(), 2);
        Check.tell(desk, HEAD + "liquid 1;".repeat(7));
        Check.due("kind 3", desk.fault(), 3);
        Check.tape(desk, HEAD);
        Check.due("still kind 3 ahead of the next", desk.fault(), 3);
        Check.due("asking does not end it", desk.fault(), 3);
        desk.text();
        Check.due("without one", desk.fault(), 0);
    }

    /** "-1 less the place of a FAULT: all stays." */
    private static void faultyTextLeavesAll() {
        String[] faulty = {"?", "tanker 0", "tanker 7 1 1 1 1 1 1 1 1;compartment 3 3 open;liquid 9;drop 0 5;last 0 0;bar 0 0;bar 1 0;",
            HEAD + "compartment 1 1 baffled;".repeat(6), HEAD + "liquid 1;drop 0 1;drop 0 2", padded(HEAD, 701)};
        for (String text : faulty) {
            TankerDesk desk = actedOn();
            TankerDesk other = actedOn();
            Check.due("a fault", Check.tell(desk, text) < 0, true);
            String all = Check.wholePicture(other);
            // The fault itself stands behind the last number of the picture, ahead of what is found by searching.
            int at = all.indexOf(" / ");
            String want = all.substring(0, at - 1) + desk.fault() + all.substring(at);
            Check.due("all stays behind '" + text + "'", Check.wholePicture(desk).equals(want), true);
            for (int left = 3; left >= -1; left--) {
                Check.due("undo()", desk.undo(), other.undo());
                Check.due("undone as ever", Check.drop(desk, 0, 3), Check.drop(other, 0, 3));
                Check.due("undone as ever", desk.now(4), other.now(4));
            }
        }
    }

    private static TankerDesk actedOn() {
        TankerDesk desk = Check.desk("tanker 9 1 2 0 9999 9999 90 10 20;compartment 10 5 open;compartment 8 4 baffled;"
                + "liquid 3;liquid 5;bar 0 1;last 1 0;drop 0 4;drop 1 6;");
        desk.put(0, 0);
        desk.asks(1, 2);
        desk.wash(1);
        desk.unload(0, 3);
        return desk;
    }

    /** "A new TEXT: all COMPARTMENTS empty, nothing can be undone." */
    private static void newTextEmptiesAll() {
        String text = "tanker 9 1 2 0 9999 9999 90 10 20;compartment 10 5 open;compartment 8 4 baffled;"
                + "liquid 3;liquid 5;bar 0 1;last 1 0;drop 0 4;drop 1 6;";
        String first = Check.wholePicture(Check.desk(text));
        TankerDesk desk = actedOn();
        desk.put(1, 1);
        Check.due("not as told first", Check.wholePicture(desk).equals(first), false);
        Check.due("the same text", Check.tell(desk, text), 9);
        Check.due("as told first", Check.wholePicture(desk).equals(first), true);
        Check.due("nothing can be undone", desk.now(8), 0);
        Check.due("undo()", desk.undo(), -1);
        // Of a shorter text nothing of the longer one is left.
        Check.due("a shorter one", Check.tell(desk, HEAD + "compartment 1 1 open;liquid 1;"), 3);
        Check.due("no second compartment", desk.compartment(1, 0), -1);
        Check.due("no last", desk.compartment(0, 6), -1);
        Check.due("no bars", desk.now(3), 0);
        Check.due("no drops", desk.now(2), 0);
        // The fullest text, told again and again, stays the same.
        String full = "tanker 9 1 2 0 9999 9999 90 10 20;" + "compartment 9 1 open;".repeat(5) + "liquid 7;".repeat(6)
                + "bar 0 0;".repeat(30) + "last 0 0;".repeat(10) + "drop 0 4;".repeat(4);
        String fullest = Check.wholePicture(Check.desk(full));
        String shortest = Check.wholePicture(Check.desk(HEAD));
        for (int i = 0; i < 4; i++) {
            Check.due("the fullest", Check.tell(desk, full), 56);
            Check.due("as told first", Check.wholePicture(desk).equals(fullest), true);
            Check.due("the shortest", i % 2 == 0 ? Check.tell(desk, HEAD) : Check.tell(desk, full), i % 2 == 0 ? 1 : 56);
            Check.due("as told first", Check.wholePicture(desk).equals(i % 2 == 0 ? shortest : fullest), true);
        }
    }

    /** "blanks (32, 10)". */
    private static void blanksAreTwo() {
        reads("\n tanker\n9 0\n\n0 0 0  0\n1 0 0\n;\n liquid \n 1 ;\n", 2);
        for (int sign = 0; sign < 256; sign++) {
            boolean blank = sign == 32 || sign == 10;
            boolean other = sign != ';' && !(sign >= 'a' && sign <= 'z') && !(sign >= '0' && sign <= '9');
            if (blank) {
                reads(HEAD + "liquid" + (char) sign + "1;", 2);
            } else if (other) {
                fails(HEAD + "liquid" + (char) sign + "1;", 31, 1);
            }
        }
    }

    /** "with blanks (32, 10) between them or not". */
    private static void blanksNeedNotBe() {
        reads(HEAD + "liquid 1;liquid 2;", 3);
        reads(HEAD + " liquid 1 ; liquid 2 ; ", 3);
        reads(HEAD + "compartment 1 1 open;", 2);
        reads(HEAD + "compartment 1 1 open ;", 2);
    }

    /** "WORDS: small letters". */
    private static void wordsAreSmallLetters() {
        fails("Tanker 9 0 0 0 0 0 1 0 0;", 0, 1);
        fails("tankeR 9 0 0 0 0 0 1 0 0;", 0, 1);
        fails(HEAD + "LIQUID 1;", 25, 1);
        fails(HEAD + "compartment 1 1 Open;", 41, 1);
        // The signs next to the letters and digits in the row of bytes: ` { / :
        fails(HEAD + "`", 25, 1);
        fails(HEAD + "{", 25, 1);
        fails(HEAD + "liquid /", 32, 1);
        fails(HEAD + "liquid :", 32, 1);
        fails(HEAD + "liquid 1{;", 33, 1);
        fails(HEAD + "liquid 1`;", 33, 1);
        fails(HEAD + "liquid 1/;", 33, 1);
        fails(HEAD + "liquid 1:;", 33, 1);
    }

    /** "NUMBERS: 1 to 4 digits". */
    private static void numbersHaveFourDigits() {
        reads(HEAD + "liquid 1;", 2);
        reads(HEAD + "liquid 01;", 2);
        reads(HEAD + "liquid 001;", 2);
        reads(HEAD + "liquid 0001;", 2);
        fails(HEAD + "liquid 00001;", 32, 1);
        fails(HEAD + "liquid 10000;", 32, 1);
        fails(HEAD + "liquid 9999;", 32, 2);
        fails(HEAD + "liquid -1;", 32, 1);
        fails(HEAD + "liquid +1;", 32, 1);
        // Numbers that come to 1 again, were they counted in 32 or 64 bits.
        fails(HEAD + "liquid 4294967297;", 32, 1);
        fails(HEAD + "liquid 18446744073709551617;", 32, 1);
        Check.due("0019 is 19", Check.desk(HEAD + "liquid 1;drop 0 0019;").drop(0, 1), 19);
        Check.due("4905 is 4905", Check.desk(HEAD + "liquid 1;drop 0 4905;").drop(0, 1), 4905);
    }

    /** "(A WORD, NUMBER goes on as long as small letters and digits do; what is not as told is no TOKEN.)" */
    private static void runsGoOnThroughLettersAndDigits() {
        fails("tanker9 0 0 0 0 0 1 0 0;", 0, 1);
        fails(HEAD + "liquid1;", 25, 1);
        fails(HEAD + "liquid 1a;", 32, 1);
        fails(HEAD + "liquid a1;", 32, 1);
        fails(HEAD + "compartment 1 1open;", 39, 1);
        fails(HEAD + "compartment 1 1 open1;", 41, 1);
        fails(HEAD + "compartment 1 1 opens;", 41, 1);
        fails(HEAD + "compartment 1 1 ope;", 41, 1);
        fails(HEAD + "compartments 1 1 open;", 25, 1);
        fails(HEAD + "compartmen 1 1 open;", 25, 1);
        // A number that is too high or too low, but goes on with a letter, is no token.
        fails(HEAD + "liquid 99x;", 32, 1);
        // The first and the last of the letters and digits.
        fails(HEAD + "liquid 1z;", 32, 1);
        fails(HEAD + "liquid z1;", 32, 1);
        fails(HEAD + "liquid a0;", 32, 1);
        fails(HEAD + "liquid a9;", 32, 1);
        // A word is that word in each of its letters.
        fails("xanker 9 0 0 0 0 0 1 0 0;", 0, 1);
        fails("tankex 9 0 0 0 0 0 1 0 0;", 0, 1);
        fails(HEAD + "xiquid 1;", 25, 1);
        fails(HEAD + "compartment 1 1 xpen;", 41, 1);
        fails(HEAD + "compartment 1 1 bafflex;", 41, 1);
    }

    /** "the sign ;" */
    private static void onlyOneSign() {
        fails(";", 0, 1);
        fails(HEAD + ";", 25, 1);
        fails(HEAD + "liquid 1,", 33, 1);
        fails(HEAD + "liquid 1;;", 34, 1);
        fails(HEAD + "liquid 1 liquid 1;", 34, 1);
    }

    /** "The first LINE: 'tanker' .. The others: .." */
    private static void tankerComesFirstAndOnce() {
        String[] others = {"compartment 1 1 open;", "liquid 1;", "bar 0 0;", "last 0 0;", "drop 0 1;"};
        for (String line : others) {
            fails(line, 0, 1);
            fails(line + HEAD, 0, 1);
        }
        fails(HEAD + HEAD, 25, 1);
        fails(HEAD + "liquid 1;tanker 9", 34, 1);
    }

    private static String tanker(int which, String number) {
        StringBuilder line = new StringBuilder("tanker");
        String[] usual = {"9", "0", "0", "0", "0", "0", "50", "40", "60"};
        for (int i = 0; i < 9; i++) {
            line.append(' ').append(i == which ? number : usual[i]);
        }
        return line.append(';').toString();
    }

    /** "(1 to 99; 0 to 9999 five times; 1 to 100; 0 to 100; LOW to 100)". */
    private static void tankerNumbers() {
        int[] places = {7, 9, 11, 13, 15, 17, 19, 22, 25};
        int[] least = {1, 0, 0, 0, 0, 0, 1, 0, 40};
        int[] most = {99, 9999, 9999, 9999, 9999, 9999, 100, 60, 100};
        for (int i = 0; i < 9; i++) {
            reads(tanker(i, "" + least[i]), 1);
            reads(tanker(i, "" + most[i]), 1);
            if (least[i] > 0) {
                fails(tanker(i, "" + (least[i] - 1)), places[i], 2);
            }
            fails(tanker(i, "10000"), places[i], 1);
        }
        fails(tanker(0, "100"), 7, 2);
        fails(tanker(6, "101"), 19, 2);
        fails(tanker(7, "101"), 22, 2);
        fails(tanker(8, "101"), 25, 2);
        // All nine, no fewer and no more.
        fails("tanker 9 0 0 0 0 0 1 0;", 22, 1);
        fails("tanker 9 0 0 0 0 0 1 0 0 0;", 25, 1);
        fails("tanker;", 6, 1);
        // Each lands in its own place: W 99, FRONT 9999, REAR 9998, LEAST 9997, MOST 9999, HIND 9998.
        TankerDesk desk = Check.desk("tanker 99 9999 9998 9997 9999 9998 100 100 100;compartment 999 99 open;");
        Check.due("FRONT by W", desk.now(4), 9999 * 99);
        Check.due("REAR by W", desk.now(5), 9998 * 99);
        Check.due("lawful", desk.now(6), 0);
        Check.due("TOP by FILL 100", desk.compartment(0, 3), 999);
        Check.due("TOP by FILL 1", Check.desk("tanker 1 0 0 0 0 0 1 0 0;compartment 999 99 open;").compartment(0, 3), 9);
    }

    /** "LOW to 100": HIGH is not below LOW. */
    private static void highBeginsAtLow() {
        reads("tanker 9 0 0 0 0 0 1 0 0;", 1);
        reads("tanker 9 0 0 0 0 0 1 0 100;", 1);
        reads("tanker 9 0 0 0 0 0 1 100 100;", 1);
        reads("tanker 9 0 0 0 0 0 1 50 50;", 1);
        fails("tanker 9 0 0 0 0 0 1 50 49;", 24, 2);
        fails("tanker 9 0 0 0 0 0 1 1 0;", 23, 2);
        fails("tanker 9 0 0 0 0 0 1 100 99;", 25, 2);
        // LOW of the text ahead is not what counts.
        TankerDesk desk = Check.desk("tanker 9 0 0 0 0 0 1 80 90;");
        Check.due("a new LOW", Check.tell(desk, "tanker 9 0 0 0 0 0 1 10 20;"), 1);
    }

    private static void bounds(String ahead, String behind, int least, int most) {
        int lines = (int) (ahead + behind).chars().filter(sign -> sign == ';').count();
        int place = ahead.length();
        reads(ahead + least + behind, lines);
        reads(ahead + most + behind, lines);
        if (least > 0) {
            fails(ahead + (least - 1) + behind, place, 2);
        }
        fails(ahead + (most + 1) + behind, place, 2);
        fails(ahead + 9999 + behind, place, 2);
        fails(ahead + 10000 + behind, place, 1);
        fails(ahead + "x" + behind, place, 1);
        fails(ahead + ";", place, 1);
        fails(ahead, place, 1);
    }

    /** "'compartment' CAP X .. (1 to 999; 0 to 99; .." */
    private static void compartmentNumbers() {
        bounds(HEAD + "compartment ", " 5 open;", 1, 999);
        bounds(HEAD + "compartment 5 ", " open;", 0, 99);
        TankerDesk desk = Check.desk(HEAD + "compartment 999 0 open;compartment 1 99 baffled;");
        Check.due("CAP", desk.compartment(0, 0), 999);
        Check.due("X", desk.compartment(0, 1), 0);
        Check.due("CAP", desk.compartment(1, 0), 1);
        Check.due("X", desk.compartment(1, 1), 99);
    }

    /** "( 'open' | 'baffled' )". */
    private static void openOrBaffled() {
        TankerDesk desk = Check.desk(HEAD + "compartment 1 1 open;compartment 1 1 baffled;compartment 1 1 open;");
        Check.due("open", desk.compartment(0, 2), 1);
        Check.due("baffled", desk.compartment(1, 2), 0);
        Check.due("open", desk.compartment(2, 2), 1);
        fails(HEAD + "compartment 1 1;", 40, 1);
        fails(HEAD + "compartment 1 1 liquid;", 41, 1);
        fails(HEAD + "compartment 1 1 open baffled;", 46, 1);
        fails(HEAD + "compartment 1 open;", 39, 1);
        fails(HEAD + "compartment 1 1 1 open;", 41, 1);
    }

    /** "'liquid' DENSITY (1 to 20; .." */
    private static void liquidNumbers() {
        bounds(HEAD + "liquid ", ";", 1, 20);
    }

    /** "'bar' LIQUID LIQUID (told ones; .." */
    private static void barNumbers() {
        bounds(TOLD + "bar ", " 0;", 0, 1);
        bounds(TOLD + "bar 0 ", ";", 0, 1);
        fails(HEAD + "bar 0 0;", 29, 2);
        fails(HEAD + "bar 0 0;liquid 1;", 29, 2);
        fails(HEAD + "liquid 1;bar 0 1;liquid 1;", 40, 2);
        reads(HEAD + "liquid 1;".repeat(6) + "bar 5 5;", 8);
        fails(HEAD + "liquid 1;".repeat(6) + "bar 5 6;", 85, 2);
    }

    /** "'last' COMPARTMENT LIQUID (told ones; .." */
    private static void lastNumbers() {
        String told = TOLD + "liquid 5;";
        bounds(told + "last ", " 0;", 0, 1);
        bounds(told + "last 0 ", ";", 0, 2);
        fails(HEAD + "liquid 1;last 0 0;", 39, 2);
        fails(HEAD + "compartment 1 1 open;last 0 0;", 53, 2);
        fails(HEAD + "liquid 1;last 0 0;compartment 1 1 open;", 39, 2);
    }

    /** "'drop' LIQUID QUANTITY (a told one; 1 to 4995; .." */
    private static void dropNumbers() {
        bounds(TOLD + "drop ", " 1;", 0, 1);
        bounds(TOLD + "drop 1 ", ";", 1, 4995);
        fails(HEAD + "drop 0 1;liquid 1;", 30, 2);
        Check.due("QUANTITY", Check.desk(TOLD + "drop 1 4995;").drop(0, 1), 4995);
        Check.due("LIQUID", Check.desk(TOLD + "drop 1 4995;").drop(0, 0), 1);
    }

    private static void tooMany(String ahead, String line, int most) {
        String full = ahead + line.repeat(most);
        reads(full, (int) full.chars().filter(sign -> sign == ';').count());
        fails(full + line, full.length(), 3);
        fails(full + " \n" + line, full.length() + 2, 3);
        String word = line.substring(0, line.indexOf(' '));
        fails(full + word, full.length(), 3);
        fails(full + word + " ?", full.length(), 3);
        fails(full + word + " 0000 9999;", full.length(), 3);
        fails(full + word + "s 1;", full.length(), 1);
    }

    /** "5 at most, numbered from 0" and fault "3 one more LINE of a sort than told (at its WORD)". */
    private static void fiveCompartments() {
        tooMany(HEAD, "compartment 7 1 open;", 5);
        TankerDesk desk = Check.desk(HEAD + "compartment 3 1 open;compartment 4 1 open;".repeat(2) + "compartment 9 1 open;");
        Check.due("compartments", desk.now(0), 5);
        Check.due("the first", desk.compartment(0, 0), 3);
        Check.due("the fifth", desk.compartment(4, 0), 9);
        Check.due("no sixth", desk.compartment(5, 0), -1);
    }

    /** "6 at most, numbered from 0". */
    private static void sixLiquids() {
        tooMany(HEAD, "liquid 7;", 6);
        TankerDesk desk = Check.desk("tanker 1 0 0 0 9999 9999 100 0 0;compartment 9 0 open;liquid 1;liquid 1;liquid 1;liquid 1;liquid 1;liquid 7;");
        Check.due("liquids", desk.now(1), 6);
        Check.due("the sixth", desk.asks(5, 2), 0);
        desk.put(0, 0);
        Check.due("of density 7", desk.now(4), 14);
        Check.due("no seventh", desk.asks(6, 1), -1);
    }

    /** "36 LINES at most". */
    private static void thirtySixBars() {
        tooMany(HEAD + "liquid 7;", "bar 0 0;", 36);
        StringBuilder all = new StringBuilder(HEAD + "liquid 7;".repeat(6));
        for (int i = 0; i < 36; i++) {
            all.append("bar ").append(i / 6).append(' ').append(i % 6).append(';');
        }
        Check.due("36 unlike ones", Check.desk(all.toString()).now(3), 36);
    }

    /** "20 LINES at most". */
    private static void twentyLasts() {
        tooMany(TOLD, "last 1 0;", 20);
    }

    /** "4 at most, numbered from 0". */
    private static void fourDrops() {
        tooMany(TOLD, "drop 0 2;", 4);
        TankerDesk desk = Check.desk(TOLD + "drop 0 11;drop 0 12;drop 0 13;drop 1 14;");
        Check.due("drops", desk.now(2), 4);
        for (int d = 0; d < 4; d++) {
            Check.due("drop " + d, Check.drop(desk, d, 1), 11 + d);
        }
        Check.due("no fifth", Check.drop(desk, 4, 0), Check.THROWN);
        Check.due("-2: 4 wait", desk.asks(0, 1), -2);
    }

    /** "told twice it is one". */
    private static void barToldTwiceIsOne() {
        Check.due("twice", Check.desk(TOLD + "bar 0 1;bar 0 1;").now(3), 1);
        Check.due("turned round it is another", Check.desk(TOLD + "bar 0 1;bar 1 0;").now(3), 2);
        Check.due("twice, with others between", Check.desk(TOLD + "bar 0 1;bar 1 1;bar 0 1;bar 0 0;bar 1 1;").now(3), 3);
        reads(TOLD + "bar 0 1;bar 0 1;", 7);
    }

    /** "a later LINE takes the place of one ahead". */
    private static void laterLastTakesThePlace() {
        TankerDesk desk = Check.desk(TOLD + "last 0 1;last 1 1;last 0 0;");
        Check.due("the later one", desk.compartment(0, 6), 0);
        Check.due("the only one", desk.compartment(1, 6), 1);
        desk = Check.desk(TOLD + "last 0 1;last 0 0;last 0 1;");
        Check.due("the latest of three", desk.compartment(0, 6), 1);
        Check.due("none", desk.compartment(1, 6), -1);
    }

    /** "FAULTS, the first along the text". */
    private static void firstFaultAlongTheText() {
        fails("tanker 100 ? 0 0 0 0 1 0 0;", 7, 2);
        fails("tanker 9 ? 0 0 0 0 101 0 0;", 9, 1);
        fails(HEAD + "liquid 1;".repeat(7) + "?", 25 + 54, 3);
        fails(HEAD + "liquid 1;".repeat(6) + "bar 0 6;liquid 1;?", 25 + 54 + 6, 2);
        fails(HEAD + "liquid 0;".repeat(7), 32, 2);
        fails(HEAD + "liquid 1 2 99;", 34, 1);
    }

    /** "(of one TOKEN the one that stands first in this list)". */
    private static void firstKindOfOneToken() {
        // A number where none can come is not looked at: 1, not 2.
        fails(HEAD + "compartment 1 1 9999;", 41, 1);
        fails(HEAD + "liquid 1 9999;", 34, 1);
        fails("9999", 0, 1);
        // Too long and too high: 1, not 2.
        fails(HEAD + "liquid 99999;", 32, 1);
        // The word of a line too many where no line begins: 1, not 3.
        String full = HEAD + "liquid 1;".repeat(6);
        fails(full + "drop liquid 1;", full.length() + 5, 1);
        fails(full + "drop 0 liquid 1;", full.length() + 7, 1);
        // A word that is not one of the lines' words, however many lines there are.
        fails(full + "liquidx 1;", full.length(), 1);
    }

    /** "the end: how many bytes there are". */
    private static void faultAtTheEnd() {
        String line = "tanker 9 0 0 0 0 0 1 0 0";
        fails(line, 24, 1);
        fails(line + " ", 25, 1);
        fails(line + " \n \n", 28, 1);
        fails("tanker", 6, 1);
        fails("tanker 9", 8, 1);
        fails("tanker 9 ", 9, 1);
        fails(HEAD + "compartment 1 1", 40, 1);
        fails(HEAD + "compartment 1 1 open", 45, 1);
        fails(padded(line, 699), 699, 1);
        fails(padded(line, 700), 700, 1);
    }

    /** "A TEXT has at most 700 bytes" and "700, if there are more and no FAULT is ahead". */
    private static void sevenHundredBytes() {
        reads(padded(HEAD, 699), 1);
        reads(padded(HEAD, 700), 1);
        for (int size = 701; size <= 740; size++) {
            fails(padded(HEAD, size), 700, 1);
        }
        reads(" ".repeat(700), 0);
        fails(" ".repeat(701), 700, 1);
        fails(padded("tanker", 701), 700, 1);
        fails(padded("tanker 9 0 0 0 0 0 1 0 0", 740), 700, 1);
        // A number is lacked there: it is the end that comes, whatever number was ahead.
        fails(padded("tanker 9 0 0 0 0 0", 740), 700, 1);
        fails(padded(TOLD + "drop 0", 701), 700, 1);
        fails(padded(TOLD + "bar 0", 701), 700, 1);
        // The last sign ends a line at byte 700, or is one too far.
        reads(padded(HEAD + "liquid 1", 699) + ";", 2);
        fails(padded(HEAD + "liquid 1", 700) + ";", 700, 1);
        fails(padded(HEAD, 700) + "?", 700, 1);
        fails(padded(HEAD, 705) + "?", 700, 1);
    }

    /** "no FAULT is ahead": one ahead of 700 is told, however long the text is. */
    private static void faultAheadOf700() {
        fails(padded("?", 740), 0, 1);
        fails(padded(HEAD + "liquid 0;", 740), 32, 2);
        fails(padded(HEAD + "liquid 1;".repeat(7), 740), 79, 3);
        fails(padded(padded(HEAD, 699) + "?", 740), 699, 1);
        fails(padded(padded(HEAD, 699) + ";", 740), 699, 1);
        fails(padded(padded(HEAD + "liquid", 699) + "0", 740), 699, 2);
        String full = HEAD + "liquid 1;".repeat(6);
        fails(padded(full, 699) + "liquid 1;", 699, 3);
    }

    /** "TOKENS that begin ahead of it are read whole". */
    private static void tokensAheadOf700AreReadWhole() {
        // The number begins at 699: 2 alone would do, 20 does, 21 and 200 do not, 20000 is none.
        fails(padded(HEAD + "liquid", 699) + "20;", 700, 1);
        fails(padded(HEAD + "liquid", 699) + "21;", 699, 2);
        fails(padded(HEAD + "liquid", 699) + "200;", 699, 2);
        fails(padded(HEAD + "liquid", 699) + "20000;", 699, 1);
        fails(padded(HEAD + "liquid", 699) + "2x;", 699, 1);
        fails(padded(HEAD + "liquid", 700) + "99;", 700, 1);
        // A word that begins at 699 and goes on to the end of the longest tape.
        fails(padded(HEAD, 699) + "liquid", 700, 1);
        fails(padded(HEAD, 699) + "liquids", 699, 1);
        fails(padded(HEAD, 699) + "l".repeat(41), 699, 1);
        fails(padded(HEAD, 700) + "l".repeat(40), 700, 1);
        fails(padded(HEAD + "compartment 1 1", 695) + "baffled;", 700, 1);
        fails(padded(HEAD + "compartment 1 1", 695) + "baffle;", 695, 1);
    }
}
