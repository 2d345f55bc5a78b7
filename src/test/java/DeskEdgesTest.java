import java.util.function.Supplier;
import java.util.function.ToIntFunction;

/** One test for each sentence of the document that names a boundary case of the desk, promises 6 to 23. */
public final class DeskEdgesTest {
    private static final int LEAST = Integer.MIN_VALUE;
    private static final int MOST = Integer.MAX_VALUE;
    /** No limits of the axles, all may be filled, no surge. */
    private static final String FREE = "tanker 10 0 0 0 9999 9999 100 0 0;";
    /** A text that is not whole yet, on the tape of a desk. */
    private static final String HALF_TEXT = "tanker 9 0 0 0 0 0 1 0 0;liquid 9;bar 0 ";
    private static final int[] NO_INDEX = {-1, -2, LEAST, MOST, 20, 21, 32, 64};

    public static void main(String[] args) {
        lastAndClean();
        topIsRoundedDown();
        frontAndRear();
        surgeBetweenLowAndHigh();
        frontAboveMost();
        frontBelowLeast();
        rearAboveHind();
        standsTheFirstThatIsSo();
        waitsTillAllIsLoaded();
        nowOfAnotherWhat();
        compartmentOfNone();
        dropOfNone();
        mayOfNone();
        wouldFromNoneToCap();
        ordersWithoutAny();
        ordersLawfulBehindEach();
        ordersKeepWhatWaits();
        firstOrderIsTheLeast();
        orderedOfNone();
        withoutOneAlone();
        planOfAnotherWhat();
        planDealsToEmptyOnes();
        planDealsWhatWaits();
        planFillsToTop();
        planLeavesNothingOver();
        planLooksAtEachBar();
        planIsLawful();
        planHasAnOrder();
        planServesTheMost();
        planTakesTheFewest();
        planGivesTheLeastFirst();
        planServesNone();
        noPlan();
        washesThatDo();
        washesThatDoNot();
        asksRefused();
        asksTwenty();
        cancelRefused();
        putUpToTop();
        putRefused();
        loadRefused();
        unloadMetered();
        unloadRefused();
        emptyGoesBack();
        emptyRefused();
        washRefused();
        undoOfTen();
        undoEachSort();
        refusedCallsChangeNothing();
        questionsChangeNothing();
        Check.finish();
    }

    private static String compartments(int cap, int x, int n) {
        return ("compartment " + cap + " " + x + " open;").repeat(n);
    }

    private static void plan(String name, TankerDesk desk, int served, int used, int... drops) {
        Check.due(name + ": plan(0)", desk.plan(0), served);
        Check.due(name + ": plan(1)", desk.plan(1), used);
        for (int c = 0; c < drops.length; c++) {
            Check.due(name + ": plan(1" + c + ")", desk.plan(10 + c), drops[c]);
        }
    }

    private static void amounts(String name, TankerDesk desk, int... amounts) {
        for (int c = 0; c < amounts.length; c++) {
            Check.due(name + ": plan(2" + c + ")", desk.plan(20 + c), amounts[c]);
        }
    }

    private static void dropIs(String name, TankerDesk desk, int drop, int... want) {
        for (int what = 0; what < want.length; what++) {
            Check.due(name + ": drop(" + drop + ", " + what + ")", Check.drop(desk, drop, what), want[what]);
        }
    }

    /** "LAST is the LIQUID that was in it latest (as told; none: CLEAN)"; "(What lies in it is LAST of it, too.)" */
    private static void lastAndClean() {
        TankerDesk desk = Check.desk(FREE + compartments(9, 5, 2) + "liquid 1;liquid 1;bar 0 1;bar 1 1;last 0 0;drop 0 4;drop 1 5;");
        Check.due("as told", desk.compartment(0, 6), 0);
        Check.due("CLEAN", desk.compartment(1, 6), -1);
        Check.due("a bar", desk.may(0, 1), false);
        Check.due("a bar the other way round does not count", desk.may(0, 0), true);
        Check.due("CLEAN: all may come", desk.may(1, 0) && desk.may(1, 1), true);
        desk.put(1, 1);
        Check.due("what lies in it is LAST", desk.compartment(1, 6), 1);
        Check.due("were it empty: barred by what lies in it", desk.may(1, 1), false);
        Check.due("were it empty: not barred", desk.may(1, 0), true);
        desk.unload(1, 5);
        Check.due("what was in it latest", desk.compartment(1, 6), 1);
        Check.due("barred still", desk.may(1, 1), false);
        desk.put(1, 0);
        desk.empty(1);
        Check.due("what was in it latest, though it went back", desk.compartment(1, 6), 0);
        desk.wash(1);
        Check.due("CLEAN again", desk.compartment(1, 6), -1);
        Check.due("all may come again", desk.may(1, 1), true);
    }

    private static int top(int cap, int fill) {
        return Check.desk("tanker 9 0 0 0 0 0 " + fill + " 0 0;compartment " + cap + " 5 open;").compartment(0, 3);
    }

    /** "TOP of a COMPARTMENT: CAP times FILL by 100, rounded down." */
    private static void topIsRoundedDown() {
        Check.due("1 by 1", top(1, 1), 0);
        Check.due("99 by 1", top(99, 1), 0);
        Check.due("100 by 1", top(100, 1), 1);
        Check.due("199 by 1", top(199, 1), 1);
        Check.due("1 by 99", top(1, 99), 0);
        Check.due("1 by 100", top(1, 100), 1);
        Check.due("999 by 99", top(999, 99), 989);
        Check.due("999 by 100", top(999, 100), 999);
        Check.due("33 by 50", top(33, 50), 16);
    }

    /** "FRONT as told times W, and of each COMPARTMENT its WEIGHT times (W less X); REAR: REAR as told times W, and WEIGHTS times X." */
    private static void frontAndRear() {
        TankerDesk desk = Check.desk("tanker 10 7 8 0 9999 9999 100 0 0;compartment 9 0 open;compartment 9 10 open;"
                + "compartment 9 99 open;compartment 9 4 open;liquid 1;liquid 20;drop 0 2;drop 1 3;drop 1 4;drop 0 9;");
        int[] front = {70, 90, 90, 90 - 80 * 89, 90 - 80 * 89 + 54};
        int[] rear = {80, 80, 80 + 600, 680 + 7920, 8600 + 36};
        for (int i = 0; i <= 4; i++) {
            Check.due("FRONT with " + i, desk.now(4), front[i]);
            Check.due("REAR with " + i, desk.now(5), rear[i]);
            desk.put(i, i);
        }
        // The heaviest there can be.
        desk = Check.desk("tanker 99 9999 9999 0 9999 9999 100 0 0;" + compartments(999, 99, 5) + "liquid 20;drop 0 4995;");
        Check.due("load", desk.load(), -1);
        for (int c = 0; c < 5; c++) {
            Check.due("put", desk.put(c, 0), 999);
        }
        Check.due("FRONT", desk.now(4), 9999 * 99);
        Check.due("REAR", desk.now(5), 9999 * 99 + 4995 * 20 * 99);
        Check.due("above HIND", desk.now(6), 4);
        Check.due("aboard", Check.drop(desk, 0, 3), 1);
        desk = Check.desk("tanker 1 0 0 0 9999 9999 100 0 0;" + compartments(999, 99, 5) + "liquid 20;drop 0 4995;");
        for (int c = 0; c < 5; c++) {
            desk.put(c, 0);
        }
        Check.due("FRONT far below 0", desk.now(4), -4995 * 20 * 98);
        Check.due("below LEAST", desk.now(6), 3);
    }

    private static int standsWith(String tanker, String kind, int cap, int quantity) {
        TankerDesk desk = Check.desk("tanker " + tanker + ";compartment " + cap + " 4 " + kind + ";liquid 2;drop 0 " + Math.max(quantity, 1) + ";");
        if (quantity > 0) {
            Check.due("put", desk.put(0, 0), quantity);
        }
        int stands = desk.now(6);
        if (quantity > 0) {
            desk.empty(0);
        }
        Check.due("would() says the same", desk.would(0, 0, quantity), stands);
        return stands;
    }

    /** "1 SURGE: an 'open' COMPARTMENT that is not empty holds more than LOW hundredths of CAP and less than HIGH hundredths". */
    private static void surgeBetweenLowAndHigh() {
        String tanker = "10 0 0 0 9999 9999 100 20 80";
        Check.due("at LOW", standsWith(tanker, "open", 10, 2), 0);
        Check.due("above LOW", standsWith(tanker, "open", 10, 3), 1);
        Check.due("below HIGH", standsWith(tanker, "open", 10, 7), 1);
        Check.due("at HIGH", standsWith(tanker, "open", 10, 8), 0);
        Check.due("full", standsWith(tanker, "open", 10, 10), 0);
        Check.due("empty", standsWith(tanker, "open", 10, 0), 0);
        Check.due("baffled", standsWith(tanker, "baffled", 10, 5), 0);
        // 20 hundredths of 33 are 6.6, 80 are 26.4: no rounding.
        Check.due("6 of 33", standsWith(tanker, "open", 33, 6), 0);
        Check.due("7 of 33", standsWith(tanker, "open", 33, 7), 1);
        Check.due("26 of 33", standsWith(tanker, "open", 33, 26), 1);
        Check.due("27 of 33", standsWith(tanker, "open", 33, 27), 0);
        // LOW 0: the empty one is none; HIGH 100: the full one is none.
        Check.due("empty, LOW 0", standsWith("10 0 0 0 9999 9999 100 0 100", "open", 10, 0), 0);
        Check.due("1, LOW 0", standsWith("10 0 0 0 9999 9999 100 0 100", "open", 10, 1), 1);
        Check.due("9, HIGH 100", standsWith("10 0 0 0 9999 9999 100 0 100", "open", 10, 9), 1);
        Check.due("10, HIGH 100", standsWith("10 0 0 0 9999 9999 100 0 100", "open", 10, 10), 0);
        Check.due("LOW is HIGH", standsWith("10 0 0 0 9999 9999 100 50 50", "open", 10, 5), 0);
        // CAP counts, not TOP.
        Check.due("4 of 10, TOP 5", standsWith("10 0 0 0 9999 9999 50 20 80", "open", 10, 4), 1);
        Check.due("3 of 10, TOP 5", standsWith("10 0 0 0 9999 9999 50 50 100", "open", 10, 3), 0);
        // The last of five, all others empty.
        TankerDesk desk = Check.desk("tanker 10 0 0 0 9999 9999 100 20 80;" + compartments(10, 4, 5) + "liquid 1;");
        Check.due("the fifth", desk.would(4, 0, 5), 1);
    }

    /** "2 FRONT is above MOST times W". 10 of density 2 at X 4 of W 10 are 12 in front, 8 behind. */
    private static void frontAboveMost() {
        Check.due("at MOST", standsWith("10 5 6 0 17 99 100 0 0", "open", 10, 10), 0);
        Check.due("above MOST", standsWith("10 5 6 0 16 99 100 0 0", "open", 10, 10), 2);
        // 1 of density 2 at 6: 12 tenths are above 1, though not above 2.
        Check.due("above by a part of W", standsWith("10 0 0 0 1 99 100 0 0", "open", 10, 1), 2);
        Check.due("below by a part of W", standsWith("10 0 0 0 2 99 100 0 0", "open", 10, 1), 0);
        Check.due("empty, at MOST", standsWith("10 5 6 0 5 99 100 0 0", "open", 10, 0), 0);
        Check.due("empty, above MOST", standsWith("10 5 6 0 4 99 100 0 0", "open", 10, 0), 2);
    }

    /** "3 FRONT is below LEAST times W". */
    private static void frontBelowLeast() {
        Check.due("at LEAST", standsWith("10 5 6 17 99 99 100 0 0", "open", 10, 10), 0);
        Check.due("below LEAST", standsWith("10 5 6 18 99 99 100 0 0", "open", 10, 10), 3);
        Check.due("below by a part of W", standsWith("10 0 0 2 99 99 100 0 0", "open", 10, 1), 3);
        Check.due("above by a part of W", standsWith("10 0 0 1 99 99 100 0 0", "open", 10, 1), 0);
        Check.due("empty, at LEAST", standsWith("10 5 6 5 99 99 100 0 0", "open", 10, 0), 0);
        Check.due("empty, below LEAST", standsWith("10 5 6 6 99 99 100 0 0", "open", 10, 0), 3);
        // X is above W: 1 of density 2 lifts the front by 6.
        Check.due("at 0", standsWith("1 6 6 0 99 99 100 0 0", "open", 10, 1), 0);
        Check.due("below 0", standsWith("1 5 6 0 99 99 100 0 0", "open", 10, 1), 3);
    }

    /** "4 REAR is above HIND times W". */
    private static void rearAboveHind() {
        Check.due("at HIND", standsWith("10 5 6 0 99 14 100 0 0", "open", 10, 10), 0);
        Check.due("above HIND", standsWith("10 5 6 0 99 13 100 0 0", "open", 10, 10), 4);
        Check.due("above by a part of W", standsWith("10 5 6 0 99 6 100 0 0", "open", 10, 1), 4);
        Check.due("empty, at HIND", standsWith("10 5 6 0 99 6 100 0 0", "open", 10, 0), 0);
        Check.due("empty, above HIND", standsWith("10 5 6 0 99 5 100 0 0", "open", 10, 0), 4);
    }

    /** "How it STANDS, the first that is so". */
    private static void standsTheFirstThatIsSo() {
        Check.due("1 ahead of 2, 3, 4", standsWith("10 5 6 18 16 13 100 50 100", "open", 19, 10), 1);
        Check.due("1 ahead of 3, 4", standsWith("10 5 6 18 18 13 100 50 100", "open", 19, 10), 1);
        Check.due("1 ahead of 4", standsWith("10 5 6 0 18 13 100 50 100", "open", 19, 10), 1);
        Check.due("2 ahead of 3", standsWith("10 5 6 18 16 14 100 0 0", "open", 10, 10), 2);
        Check.due("2 ahead of 4", standsWith("10 5 6 0 16 13 100 0 0", "open", 10, 10), 2);
        Check.due("3 ahead of 4", standsWith("10 5 6 18 18 13 100 0 0", "open", 10, 10), 3);
    }

    /** "It WAITS (0), as long as LOADED is less than its QUANTITY; is ABOARD (1), as that is LOADED". */
    private static void waitsTillAllIsLoaded() {
        TankerDesk desk = Check.desk(FREE + compartments(9, 5, 2) + compartments(1, 5, 1) + "liquid 1;drop 0 19;drop 0 9;");
        dropIs("told", desk, 0, 0, 19, 0, 0, 0, 0);
        desk.put(0, 0);
        desk.put(1, 0);
        dropIs("one is lacked", desk, 0, 0, 19, 18, 0, 0, 0);
        Check.due("it waits: unload", desk.unload(0, 18), -1);
        desk.put(2, 0);
        dropIs("all is loaded", desk, 0, 0, 19, 19, 1, 0, 0);
        desk.empty(2);
        dropIs("it waits again", desk, 0, 0, 19, 18, 0, 0, 0);
        desk.undo();
        desk.unload(0, 19);
        dropIs("done: nothing of it lies there", desk, 0, 0, 19, 0, 2, 19, 0);
    }

    /** "NONE - 99999999 for another what." */
    private static void nowOfAnotherWhat() {
        TankerDesk desk = Check.desk(FREE + compartments(9, 5, 3) + "liquid 1;liquid 1;bar 0 1;last 0 0;last 1 0;drop 0 9;drop 0 9;drop 0 9;drop 0 1;");
        desk.wash(0);
        desk.wash(1);
        desk.put(2, 0);
        Check.tape(desk, "seven b");
        int[] want = {3, 2, 4, 1, 45, 45, 0, 2, 3, 7};
        for (int what = 0; what <= 9; what++) {
            Check.due("now(" + what + ")", desk.now(what), want[what]);
        }
        for (int what : new int[] {-1, 10, 11, 100, LEAST, MOST}) {
            Check.due("now(" + what + ")", desk.now(what), -100000000);
        }
        desk.undo();
        Check.due("what can be undone", desk.now(8), 2);
        desk.undo();
        Check.due("washes that were done", desk.now(7), 1);
    }

    /** "NONE: no such one, another what." */
    private static void compartmentOfNone() {
        TankerDesk desk = Check.desk(FREE + compartments(9, 5, 2) + "liquid 1;last 1 0;drop 0 4;");
        desk.put(0, 0);
        int[][] want = {{9, 5, 1, 9, 4, 0, 0}, {9, 5, 1, 9, 0, -1, 0}};
        for (int c = 0; c < 2; c++) {
            for (int what = 0; what < 7; what++) {
                Check.due("compartment(" + c + ", " + what + ")", desk.compartment(c, what), want[c][what]);
            }
            for (int what : new int[] {-1, 7, 8, LEAST, MOST}) {
                Check.due("another what", desk.compartment(c, what), -1);
            }
        }
        for (int c : new int[] {-1, 2, 4, 5, LEAST, MOST}) {
            for (int what = 0; what < 7; what++) {
                Check.due("no such one", desk.compartment(c, what), -1);
            }
        }
        Check.due("the fifth", Check.desk(FREE + compartments(9, 5, 5)).compartment(4, 0), 9);
        Check.due("no sixth", Check.desk(FREE + compartments(9, 5, 5)).compartment(5, 0), -1);
    }

    /** "NoSuchElementException: no such one, another what." */
    private static void dropOfNone() {
        TankerDesk desk = Check.desk(FREE + compartments(9, 5, 2) + "liquid 1;liquid 1;drop 1 4;drop 0 5;");
        for (int d : new int[] {-1, 2, 3, 4, 19, 20, LEAST, MOST}) {
            for (int what = -1; what <= 6; what++) {
                Check.due("no such drop", Check.drop(desk, d, what), Check.THROWN);
            }
        }
        for (int what : new int[] {-1, 6, 7, LEAST, MOST}) {
            Check.due("another what", Check.drop(desk, 0, what), Check.THROWN);
            Check.due("another what", Check.drop(desk, 1, what), Check.THROWN);
        }
        desk.asks(0, 3);
        Check.due("there is one now", Check.drop(desk, 2, 1), 3);
        desk.undo();
        Check.due("undone, there is none", Check.drop(desk, 2, 1), Check.THROWN);
        // 4 and 5 are 0 as long as it is not DONE.
        desk.put(0, 0);
        dropIs("aboard", desk, 0, 1, 4, 4, 1, 0, 0);
        desk.unload(0, 1);
        dropIs("done", desk, 0, 1, 4, 0, 2, 1, 3);
        desk.cancel(1);
        dropIs("cancelled", desk, 1, 0, 5, 0, 3, 0, 0);
    }

    /** "False: no such ones." */
    private static void mayOfNone() {
        TankerDesk desk = Check.desk(FREE + compartments(9, 5, 2) + "liquid 1;liquid 1;liquid 1;");
        for (int c : new int[] {-1, 2, 5, LEAST, MOST}) {
            Check.due("no such compartment", desk.may(c, 0), false);
        }
        for (int liquid : new int[] {-1, 3, 6, LEAST, MOST}) {
            Check.due("no such liquid", desk.may(0, liquid), false);
        }
        Check.due("the last of both", desk.may(1, 2), true);
        Check.due("the first of both", desk.may(0, 0), true);
    }

    /** "were so much (0 to CAP) of a LIQUID in a COMPARTMENT, in place of what lies there. NONE: no such ones." */
    private static void wouldFromNoneToCap() {
        TankerDesk desk = Check.desk("tanker 1 0 0 0 12 9999 50 0 0;" + compartments(10, 0, 2) + "liquid 1;liquid 2;bar 0 1;last 1 0;drop 0 5;");
        desk.put(0, 0);
        Check.due("0", desk.would(1, 0, 0), 0);
        Check.due("below 0", desk.would(1, 0, -1), -1);
        Check.due("CAP, though above TOP", desk.would(1, 0, 10), 2);
        Check.due("above CAP", desk.would(1, 0, 11), -1);
        Check.due("far above CAP", desk.would(1, 0, MOST), -1);
        Check.due("far below 0", desk.would(1, 0, LEAST), -1);
        Check.due("7 beside 5", desk.would(1, 0, 7), 0);
        Check.due("8 beside 5", desk.would(1, 0, 8), 2);
        Check.due("in place of 5", desk.would(0, 0, 10), 0);
        Check.due("in place of 5: 6 of density 2", desk.would(0, 1, 6), 0);
        Check.due("in place of 5: 7 of density 2", desk.would(0, 1, 7), 2);
        Check.due("a bar does not matter", desk.would(1, 1, 3), 0);
        for (int no : new int[] {-1, 2, 5, 6, LEAST, MOST}) {
            Check.due("no such compartment", desk.would(no, 0, 0), -1);
            Check.due("no such liquid", desk.would(0, no, 0), -1);
        }
    }

    /** "Without any there is one ORDER, of none." */
    private static void ordersWithoutAny() {
        Check.due("nothing told", new TankerDesk().orders(), 1);
        TankerDesk desk = Check.desk("tanker 1 5 0 0 4 0 100 0 0;" + compartments(9, 0, 2) + "liquid 1;drop 0 10;drop 0 3;");
        Check.due("not lawful", desk.now(6), 2);
        Check.due("one of none, though not lawful", desk.orders(), 1);
        Check.due("of none", desk.ordered(0), -1);
        desk.put(0, 0);
        Check.due("in part is not aboard", desk.orders(), 1);
        desk.cancel(1);
        Check.due("a cancelled one is not aboard", desk.orders(), 1);
        desk = Check.desk(FREE + compartments(9, 0, 2) + "liquid 1;drop 0 3;");
        desk.put(0, 0);
        desk.unload(0, 3);
        Check.due("one that is done is not aboard", desk.orders(), 1);
        Check.due("of none", desk.ordered(0), -1);
    }

    /** "one behind the other what is LOADED of it is gone; the tanker is LAWFUL behind each." */
    private static void ordersLawfulBehindEach() {
        // The last drop leaves less than LEAST: no order, though lawful now.
        TankerDesk desk = Check.desk("tanker 1 0 0 5 99 99 100 0 0;" + compartments(9, 0, 2) + "liquid 1;drop 0 5;drop 0 6;");
        desk.put(0, 0);
        desk.put(1, 1);
        Check.due("lawful now", desk.now(6), 0);
        Check.due("behind the first", desk.without(0) + desk.without(1), 0);
        Check.due("not behind the last", desk.orders(), 0);
        Check.due("none", desk.ordered(0), -1);
        // Not lawful now, lawful behind each: how it stands ahead of the first is not asked.
        desk = Check.desk("tanker 1 0 0 0 10 99 100 0 0;" + compartments(9, 0, 2) + "liquid 1;drop 0 5;drop 0 6;");
        desk.put(0, 0);
        desk.put(1, 1);
        Check.due("not lawful now", desk.now(6), 2);
        Check.due("both orders", desk.orders(), 2);
        // Lawful behind one of them alone.
        desk = Check.desk("tanker 1 0 0 0 5 99 100 0 0;" + compartments(9, 0, 2) + "liquid 1;drop 0 5;drop 0 6;");
        desk.put(0, 0);
        desk.put(1, 1);
        Check.due("one order", desk.orders(), 1);
        Check.due("the heavy one first", desk.ordered(0), 1);
        Check.due("then the other", desk.ordered(1), 0);
        // All parts of a drop are gone at once.
        desk = Check.desk("tanker 1 5 0 0 5 99 100 0 0;compartment 9 0 open;compartment 9 2 open;liquid 1;drop 0 9;drop 0 18;");
        desk.put(0, 1);
        desk.put(1, 1);
        Check.due("both parts at once", desk.orders(), 1);
    }

    /** "(What lies of DROPS that WAIT stays.)" */
    private static void ordersKeepWhatWaits() {
        TankerDesk desk = Check.desk("tanker 1 0 0 0 9 99 100 0 0;" + compartments(9, 0, 3) + "liquid 1;drop 0 10;drop 0 6;drop 0 3;");
        desk.put(0, 0);
        desk.put(1, 1);
        desk.put(2, 2);
        Check.due("9 stay: only the last step is lawful", desk.orders(), 0);
        desk.empty(0);
        Check.due("nothing stays", desk.orders(), 2);
        desk = Check.desk("tanker 1 0 0 5 99 99 100 0 0;" + compartments(9, 0, 2) + "liquid 1;drop 0 10;drop 0 6;");
        desk.put(1, 1);
        Check.due("nothing stays: below LEAST", desk.orders(), 0);
        desk.put(0, 0);
        Check.due("9 stay: lawful behind the last", desk.orders(), 1);
        Check.due("the one that waits is not in it", desk.ordered(0), 1);
        Check.due("one alone", desk.ordered(1), -1);
    }

    /** "The first ORDER: the least first DROP, then the least second one, and so on." */
    private static void firstOrderIsTheLeast() {
        TankerDesk desk = Check.desk(FREE + compartments(9, 0, 5) + "liquid 1;" + "drop 0 9;".repeat(4));
        for (int d = 0; d < 4; d++) {
            desk.put(4 - d, d);
        }
        desk.asks(0, 9);
        desk.put(0, 4);
        Check.due("five at will", desk.orders(), 120);
        for (int k = 0; k < 5; k++) {
            Check.due("by numbers, not by compartments", desk.ordered(k), k);
        }
        desk.unload(1, 9);
        Check.due("four at will", desk.orders(), 24);
        Check.due("the second", desk.ordered(1), 2);
        // FRONT is 7 and must not be below 5: 0 and 2 weigh 3 there, 1 lifts it by 4, so it goes ahead of them.
        desk = Check.desk("tanker 1 5 0 5 99 99 100 0 0;compartment 9 0 open;compartment 9 2 open;compartment 9 0 open;"
                + "liquid 1;drop 0 3;drop 0 4;drop 0 3;");
        desk.put(0, 0);
        desk.put(1, 1);
        desk.put(2, 2);
        Check.due("1 goes first", desk.orders(), 2);
        Check.due("the least first one that goes", desk.ordered(0), 1);
        Check.due("the least second one", desk.ordered(1), 0);
        Check.due("the last", desk.ordered(2), 2);
        // 18 in front, 9 at most behind the first: the heaviest goes first, then the least.
        desk = Check.desk("tanker 1 0 0 0 9 99 100 0 0;" + compartments(9, 0, 3) + "liquid 1;drop 0 4;drop 0 5;drop 0 9;");
        desk.put(0, 0);
        desk.put(1, 1);
        desk.put(2, 2);
        Check.due("2 goes first", desk.ordered(0), 2);
        Check.due("then 0", desk.ordered(1), 0);
        Check.due("then 1", desk.ordered(2), 1);
        Check.due("two orders", desk.orders(), 2);
        deadEnd();
    }

    /** Behind 1 the tanker is lawful, and 1 is less than 2, but from there on no row of the others is. */
    private static void deadEnd() {
        // FRONT is 2, 0 to 5 are lawful. 0 lifts it by 4, 1 by 1; 2 weighs 1 there, 3 weighs 4.
        TankerDesk desk = Check.desk("tanker 1 2 0 0 5 99 100 0 0;compartment 9 2 open;compartment 9 2 open;compartment 9 0 open;"
                + "compartment 9 0 open;liquid 1;drop 0 4;drop 0 1;drop 0 1;drop 0 4;");
        for (int d = 0; d < 4; d++) {
            desk.put(d, d);
        }
        Check.due("FRONT", desk.now(4), 2);
        int[] behind = {2, 0, 0, 3};
        for (int d = 0; d < 4; d++) {
            Check.due("behind " + d, desk.without(d), behind[d]);
        }
        Check.due("one order", desk.orders(), 1);
        int[] order = {2, 0, 3, 1};
        for (int k = 0; k < 4; k++) {
            Check.due("ordered(" + k + ")", desk.ordered(k), order[k]);
        }
    }

    /** "NONE: there is no ORDER, none such." */
    private static void orderedOfNone() {
        TankerDesk desk = Check.desk(FREE + compartments(9, 0, 2) + "liquid 1;drop 0 4;drop 0 5;");
        desk.put(0, 0);
        desk.put(1, 1);
        for (int k : new int[] {-1, 2, 3, 5, 20, 31, 32, LEAST, MOST}) {
            Check.due("ordered(" + k + ")", desk.ordered(k), -1);
        }
        Check.due("ordered(0)", desk.ordered(0), 0);
        Check.due("ordered(1)", desk.ordered(1), 1);
        desk = Check.desk("tanker 1 0 0 5 99 99 100 0 0;" + compartments(9, 0, 2) + "liquid 1;drop 0 5;drop 0 6;");
        desk.put(0, 0);
        desk.put(1, 1);
        for (int k = -1; k < 3; k++) {
            Check.due("no order: ordered(" + k + ")", desk.ordered(k), -1);
        }
    }

    /** "How the tanker would STAND behind a DROP that is ABOARD is gone alone. NONE: no such one, it is not ABOARD." */
    private static void withoutOneAlone() {
        TankerDesk desk = Check.desk("tanker 1 0 0 3 9 99 100 0 0;" + compartments(9, 0, 4) + "liquid 1;drop 0 4;drop 0 10;drop 0 2;drop 0 1;");
        desk.put(0, 0);
        desk.put(3, 2);
        Check.due("2 stay", desk.without(0), 3);
        Check.due("4 stay", desk.without(2), 0);
        Check.due("it waits, nothing of it is loaded", desk.without(1), -1);
        desk.put(1, 1);
        Check.due("it waits, loaded in part", desk.without(1), -1);
        Check.due("9 and 2 stay", desk.without(0), 2);
        desk.put(2, 1);
        Check.due("in two compartments: 6 stay", desk.without(1), 0);
        // What is gone weighs nothing, in front and behind: REAR is at HIND then, FRONT at LEAST and MOST.
        TankerDesk edge = Check.desk("tanker 2 3 4 3 3 4 100 0 100;compartment 9 1 open;liquid 1;drop 0 9;");
        edge.put(0, 0);
        Check.due("above MOST", edge.now(6), 2);
        Check.due("at all limits", edge.without(0), 0);
        edge = Check.desk("tanker 2 3 4 3 9 4 100 0 0;compartment 9 1 open;compartment 1 1 open;liquid 1;drop 0 9;drop 0 2;");
        edge.put(0, 0);
        edge.put(1, 1);
        Check.due("half of one above HIND", edge.without(0), 4);
        desk.cancel(3);
        Check.due("it is cancelled", desk.without(3), -1);
        desk.unload(1, 10);
        Check.due("it is done", desk.without(1), -1);
        for (int no : NO_INDEX) {
            Check.due("no such one", desk.without(no), -1);
        }
        Check.due("no such one", desk.without(4), -1);
    }

    /** "NONE: another what, no such COMPARTMENT." "(NONE: none, it is not empty)", "how much it gets (0)". */
    private static void planOfAnotherWhat() {
        TankerDesk desk = Check.desk(FREE + compartments(9, 0, 3) + "liquid 1;drop 0 4;drop 0 5;");
        desk.put(0, 0);
        plan("one is left", desk, 1, 1, -1, 1, -1);
        amounts("one is left", desk, 0, 5, 0);
        for (int what : new int[] {-1, 2, 3, 9, 13, 14, 15, 19, 23, 24, 25, 29, 30, LEAST, LEAST + 10, LEAST + 20, MOST}) {
            Check.due("plan(" + what + ")", desk.plan(what), -1);
        }
        desk = Check.desk(FREE + compartments(9, 0, 5) + "liquid 1;drop 0 45;");
        plan("all five", desk, 1, 5, 0, 0, 0, 0, 0);
        amounts("all five", desk, 9, 9, 9, 9, 9);
        Check.due("no sixth", desk.plan(15), -1);
        Check.due("no sixth", desk.plan(25), -1);
    }

    /** "each empty COMPARTMENT gets one of the DROPS that WAIT, or none". */
    private static void planDealsToEmptyOnes() {
        TankerDesk desk = Check.desk(FREE + compartments(9, 0, 2) + "liquid 1;drop 0 4;drop 0 5;drop 0 5;");
        desk.put(0, 0);
        plan("there is room in the first, but it is not empty", desk, 1, 1, -1, 1);
        desk.put(1, 1);
        plan("none is empty", desk, 0, 0, -1, -1);
        amounts("none is empty", desk, 0, 0);
        Check.due("washes", desk.washes(), -2);
        desk.empty(0);
        plan("the first is empty again", desk, 1, 1, 0, -1);
    }

    /** "one of the DROPS that WAIT": not those that are ABOARD, DONE, CANCELLED. "What a DROP lacks (QUANTITY less LOADED)". */
    private static void planDealsWhatWaits() {
        TankerDesk desk = Check.desk(FREE + compartments(9, 0, 4) + "liquid 1;drop 0 4;drop 0 5;drop 0 6;drop 0 16;");
        desk.put(0, 0);
        desk.put(1, 1);
        desk.unload(1, 5);
        desk.cancel(2);
        desk.put(3, 3);
        plan("one waits", desk, 1, 1, -1, 3, -1, -1);
        amounts("what it lacks", desk, 0, 7, 0, 0);
        Check.due("load", desk.load(), 1);
        Check.due("aboard", Check.drop(desk, 3, 3), 1);
        plan("none waits", desk, 0, 0, -1, -1, -1, -1);
        Check.due("washes", desk.washes(), 0);
    }

    /** "by numbers, into each up to TOP, till all is in: none of these may be left without any". */
    private static void planFillsToTop() {
        String tanker = "tanker 10 0 0 0 9999 9999 90 0 0;";
        TankerDesk desk = Check.desk(tanker + "compartment 11 5 open;compartment 20 5 open;compartment 3 5 open;liquid 1;drop 0 28;");
        plan("all three", desk, 1, 3, 0, 0, 0);
        amounts("the first ones full", desk, 9, 18, 1);
        desk = Check.desk(tanker + "compartment 11 5 open;compartment 20 5 open;compartment 3 5 open;liquid 1;drop 0 27;");
        plan("two are enough", desk, 1, 2, 0, 0, -1);
        amounts("two are enough", desk, 9, 18, 0);
        desk = Check.desk(tanker + "compartment 11 5 open;liquid 1;drop 0 1;");
        amounts("all is in", desk, 1);
        // A compartment with TOP 0 would be left without any.
        desk = Check.desk(tanker + "compartment 1 5 open;compartment 11 5 open;liquid 1;drop 0 9;");
        plan("TOP 0", desk, 1, 1, -1, 0);
        desk = Check.desk(tanker + "compartment 1 5 open;liquid 1;drop 0 1;");
        plan("TOP 0 alone", desk, 0, 0, -1);
    }

    /** "nothing may be left over". */
    private static void planLeavesNothingOver() {
        String tanker = "tanker 10 0 0 0 9999 9999 90 0 0;" + compartments(11, 5, 2) + "liquid 1;";
        plan("at both TOPs", Check.desk(tanker + "drop 0 18;"), 1, 2, 0, 0);
        plan("one too much", Check.desk(tanker + "drop 0 19;"), 0, 0, -1, -1);
        plan("far too much", Check.desk(tanker + "drop 0 4995;"), 0, 0, -1, -1);
        plan("one of two", Check.desk(tanker + "drop 0 19;drop 0 18;"), 1, 2, 1, 1);
        TankerDesk desk = Check.desk(tanker + "drop 0 19;");
        desk.put(0, 0);
        plan("one too much is lacked", desk, 0, 0, -1, -1);
        Check.due("washes", desk.washes(), -2);
        // Behind a text with more compartments the room of those is not there any more.
        desk = Check.desk(FREE + compartments(99, 5, 5) + "liquid 1;drop 0 400;");
        plan("five", desk, 1, 5, 0, 0, 0, 0, 0);
        Check.tell(desk, tanker + "drop 0 19;");
        plan("two of the next text", desk, 0, 0, -1, -1);
        Check.due("washes", desk.washes(), -2);
    }

    /** "its LIQUID may come into each". */
    private static void planLooksAtEachBar() {
        String told = FREE + compartments(9, 5, 3) + "liquid 1;liquid 1;bar 1 0;";
        plan("the second is barred", Check.desk(told + "last 1 1;drop 0 18;"), 1, 2, 0, -1, 0);
        plan("all are barred", Check.desk(told + "last 0 1;last 1 1;last 2 1;drop 0 1;"), 0, 0, -1, -1, -1);
        plan("two are needed", Check.desk(told + "last 0 1;last 1 1;drop 0 10;"), 0, 0, -1, -1, -1);
        plan("another may come", Check.desk(told + "last 0 1;last 1 1;drop 0 9;drop 1 9;"), 2, 2, 1, -1, 0);
        // What the plan itself puts into one does not bar the same drop's next one.
        plan("a liquid that bars itself", Check.desk(FREE + compartments(9, 5, 2) + "liquid 1;bar 0 0;drop 0 18;"), 1, 2, 0, 0);
    }

    /** "With what lies there already the tanker must be LAWFUL then". */
    private static void planIsLawful() {
        String told = compartments(9, 0, 3) + "liquid 1;drop 0 9;drop 0 5;drop 0 3;";
        plan("to 8 in front", Check.desk("tanker 1 0 0 0 8 99 100 0 0;" + told), 2, 2, 1, 2, -1);
        plan("to 7 in front", Check.desk("tanker 1 0 0 0 7 99 100 0 0;" + told), 1, 1, 1, -1, -1);
        plan("to 2 in front", Check.desk("tanker 1 0 0 0 2 99 100 0 0;" + told), 0, 0, -1, -1, -1);
        TankerDesk desk = Check.desk("tanker 1 0 0 0 8 99 100 0 0;" + told);
        desk.put(2, 2);
        plan("with 3 that lie there", desk, 1, 1, 1, -1, -1);
        desk.undo();
        desk.put(0, 1);
        plan("with 5 that lie there", desk, 1, 1, -1, 2, -1);
        // Surge and HIND bar as well.
        plan("surge", Check.desk("tanker 1 0 0 0 99 99 100 20 80;compartment 10 0 open;compartment 10 0 baffled;liquid 1;drop 0 5;"), 1, 1, -1, 0);
        plan("at HIND", Check.desk("tanker 1 0 0 0 99 9 100 0 0;compartment 9 1 open;liquid 1;drop 0 9;"), 1, 1, 0);
        plan("above HIND", Check.desk("tanker 1 0 0 0 99 8 100 0 0;compartment 9 1 open;liquid 1;drop 0 9;"), 0, 0, -1);
    }

    /** "and there must be an ORDER of all DROPS that are ABOARD then". */
    private static void planHasAnOrder() {
        // 10 at X 0 and 10 at X 2 of W 1: together 0 in front, behind either of them not.
        String told = "compartment 10 0 open;compartment 10 2 open;liquid 1;drop 0 10;drop 0 10;";
        TankerDesk desk = Check.desk("tanker 1 0 0 0 0 99 100 0 0;" + told);
        plan("lawful together, no order", desk, 0, 0, -1, -1);
        plan("10 in front alone do", Check.desk("tanker 1 0 0 0 10 99 100 0 0;" + told), 2, 2, 0, 1);
        // One aboard already is in the order too: it holds the other down, and must go last.
        desk = Check.desk("tanker 1 0 0 0 10 99 100 0 0;" + told);
        desk.put(0, 0);
        plan("one aboard, one behind", desk, 1, 1, -1, 1);
        // A drop in part stays, so behind the last drop it must be lawful with it.
        desk = Check.desk("tanker 1 0 0 0 9 99 100 0 0;compartment 10 0 open;compartment 10 2 open;liquid 1;drop 0 40;drop 0 10;");
        desk.put(0, 0);
        Check.due("above MOST", desk.now(6), 2);
        plan("lawful with both, not behind the second", desk, -2, -2, -2, -2);
    }

    /** "those that serve the most DROPS". */
    private static void planServesTheMost() {
        plan("two small ones", Check.desk(FREE + compartments(9, 0, 2) + "liquid 1;drop 0 18;drop 0 9;drop 0 8;"), 2, 2, 1, 2);
        plan("three, though with more compartments", Check.desk(FREE + compartments(9, 0, 4) + "liquid 1;drop 0 9;drop 0 18;drop 0 8;"), 3, 4, 0, 1, 1, 2);
        plan("all four", Check.desk(FREE + compartments(9, 0, 5) + "liquid 1;drop 0 9;drop 0 9;drop 0 9;drop 0 18;"), 4, 5, 0, 1, 2, 3, 3);
        plan("three of four", Check.desk(FREE + compartments(9, 0, 5) + "liquid 1;drop 0 18;drop 0 18;drop 0 9;drop 0 18;"), 3, 5, 0, 0, 1, 1, 2);
    }

    /** "of these those with the fewest COMPARTMENTS that get one". */
    private static void planTakesTheFewest() {
        plan("one great one", Check.desk(FREE + compartments(5, 0, 2) + compartments(10, 0, 1) + "liquid 1;drop 0 10;"), 1, 1, -1, -1, 0);
        plan("the other drop needs fewer", Check.desk(FREE + compartments(5, 0, 2) + "liquid 1;drop 0 10;drop 0 5;drop 0 11;"), 1, 1, 1, -1);
        plan("two and one", Check.desk(FREE + compartments(5, 0, 3) + compartments(10, 0, 1) + "liquid 1;drop 0 10;drop 0 10;"), 2, 3, 0, 0, -1, 1);
    }

    /** "the one that gives the first empty COMPARTMENT the least DROP (none comes behind all), then the second, and so on". */
    private static void planGivesTheLeastFirst() {
        plan("none behind all", Check.desk(FREE + compartments(9, 0, 3) + "liquid 1;drop 0 9;"), 1, 1, 0, -1, -1);
        plan("the least first", Check.desk(FREE + compartments(9, 0, 3) + "liquid 1;drop 0 9;drop 0 9;"), 2, 2, 0, 1, -1);
        plan("the least that may come", Check.desk(FREE + compartments(9, 0, 3) + "liquid 1;liquid 1;bar 1 0;last 0 1;drop 0 9;drop 1 9;"), 2, 2, 1, 0, -1);
        plan("the least of equals is served", Check.desk(FREE + compartments(9, 0, 1) + "liquid 1;drop 0 9;drop 0 9;drop 0 9;drop 0 9;"), 1, 1, 0);
        plan("a greater drop comes ahead of none", Check.desk(FREE + compartments(9, 0, 3) + "liquid 1;liquid 1;bar 1 0;last 0 1;last 1 1;drop 0 9;drop 1 9;"), 2, 2, 1, -1, 0);
        // The first compartment that is empty counts, not the first one.
        TankerDesk desk = Check.desk(FREE + compartments(9, 0, 3) + "liquid 1;drop 0 9;drop 0 9;drop 0 9;");
        desk.put(0, 2);
        plan("the first empty one", desk, 2, 2, -1, 0, 1);
        // Numbers count, not when they came to wait.
        desk = Check.desk(FREE + compartments(9, 0, 2) + "liquid 1;drop 0 9;drop 0 9;");
        desk.put(1, 0);
        desk.empty(1);
        plan("by numbers", desk, 2, 2, 0, 1);
    }

    /** "(One that serves none is a PLAN, if the tanker is LAWFUL as it is and there is an ORDER; else there may be none.)" */
    private static void planServesNone() {
        plan("nothing told", new TankerDesk(), 0, 0);
        Check.due("nothing told: plan(10)", new TankerDesk().plan(10), -1);
        plan("no drop", Check.desk(FREE + compartments(9, 0, 1) + "liquid 1;"), 0, 0, -1);
        plan("no compartment", Check.desk(FREE + "liquid 1;drop 0 1;"), 0, 0);
        plan("not lawful as it is", Check.desk("tanker 1 5 0 0 4 0 100 0 0;"), -2, -2);
        TankerDesk desk = Check.desk("tanker 1 0 0 5 99 99 100 0 0;" + compartments(9, 0, 2) + "liquid 1;drop 0 5;drop 0 6;");
        plan("not lawful as it is, no order with any", desk, -2, -2, -2, -2);
        desk.put(0, 0);
        Check.due("lawful as it is", desk.now(6), 0);
        plan("lawful as it is, no order", desk, -2, -2, -2, -2);
        // Not lawful as it is, but a plan that serves the drop in part is: 1 at X 2 lifts the front, and behind it all is gone.
        desk = Check.desk("tanker 1 0 0 0 5 99 100 0 0;compartment 6 0 open;compartment 9 2 open;compartment 9 0 open;liquid 1;drop 0 7;drop 0 3;");
        desk.put(0, 0);
        Check.due("not lawful as it is", desk.now(6), 2);
        plan("mended", desk, 1, 1, -1, 0, -1);
        desk = Check.desk("tanker 1 0 0 7 99 99 100 0 0;compartment 6 0 open;compartment 9 2 open;compartment 9 0 open;liquid 1;drop 0 8;drop 0 3;");
        desk.put(0, 0);
        Check.due("not lawful as it is", desk.now(6), 3);
        plan("nor behind it", desk, -2, -2, -2, -2, -2);
    }

    /** "-2: there is no PLAN." */
    private static void noPlan() {
        TankerDesk desk = Check.desk("tanker 1 0 0 5 99 99 100 0 0;" + compartments(9, 0, 5) + "liquid 1;drop 0 5;");
        for (int c = 0; c < 5; c++) {
            Check.due("plan(" + (10 + c) + ")", desk.plan(10 + c), -2);
            Check.due("plan(" + (20 + c) + ")", desk.plan(20 + c), -2);
        }
        Check.due("plan(0)", desk.plan(0), -2);
        Check.due("plan(1)", desk.plan(1), -2);
        Check.due("washes()", desk.washes(), -2);
        Check.due("load()", desk.load(), -2);
        desk.cancel(0);
        Check.due("none waits: plan(0)", desk.plan(0), -2);
        Check.due("none waits: washes()", desk.washes(), -2);
        Check.due("none waits: load()", desk.load(), -2);
    }

    /** "The fewest empty COMPARTMENTS to be washed (as if CLEAN) so that the PLAN would serve all DROPS that WAIT (0: it does)". */
    private static void washesThatDo() {
        Check.due("nothing told", new TankerDesk().washes(), 0);
        String told = FREE + compartments(9, 5, 5) + "liquid 1;liquid 1;bar 1 0;last 0 1;last 1 1;last 2 1;last 3 1;last 4 1;";
        TankerDesk desk = Check.desk(told);
        Check.due("none waits", desk.washes(), 0);
        for (int n = 1; n <= 5; n++) {
            desk.asks(0, 9 * n);
            Check.due("for " + 9 * n, desk.washes(), n);
            desk.undo();
            desk.asks(0, 9 * n - 8);
            Check.due("for " + (9 * n - 8), desk.washes(), n);
            desk.undo();
        }
        // The other liquid needs none of them.
        desk.asks(1, 9);
        desk.asks(0, 18);
        Check.due("two of three", desk.washes(), 2);
        Check.due("the plan serves the other", desk.plan(0), 1);
        desk.wash(4);
        Check.due("one was washed", desk.washes(), 1);
        desk.wash(2);
        Check.due("both were washed", desk.washes(), 0);
        Check.due("it does", desk.plan(0), 2);
        // Fewer washes go ahead of fewer compartments.
        desk = Check.desk(FREE + "compartment 10 5 open;" + compartments(5, 5, 2) + "liquid 1;liquid 1;bar 1 0;last 0 1;drop 0 10;");
        Check.due("two small ones need none", desk.washes(), 0);
        // One that a lawful load needs, though others are clean.
        desk = Check.desk("tanker 1 0 0 0 0 99 100 0 0;compartment 9 0 open;compartment 9 1 open;liquid 1;liquid 1;bar 1 0;last 1 1;drop 0 9;");
        Check.due("only the second is lawful", desk.washes(), 1);
        // One in which what lay there last bars one drop, but not the other.
        desk = Check.desk(FREE + compartments(9, 5, 2) + "liquid 1;liquid 1;bar 0 1;bar 1 0;last 0 0;last 1 1;drop 1 9;drop 0 9;");
        Check.due("dealt the other way round", desk.washes(), 0);
        desk.wash(0);
        Check.due("washing does no harm", desk.washes(), 0);
    }

    /** "-2: by none." */
    private static void washesThatDoNot() {
        TankerDesk desk = Check.desk(FREE + compartments(9, 5, 2) + "liquid 1;liquid 1;bar 1 0;last 0 1;last 1 1;drop 0 19;");
        Check.due("too much", desk.washes(), -2);
        desk = Check.desk(FREE + compartments(9, 5, 1) + "liquid 1;liquid 1;bar 1 0;last 0 1;drop 0 9;drop 0 9;");
        Check.due("one of two alone", desk.washes(), -2);
        desk = Check.desk("tanker 1 0 0 0 8 99 100 0 0;" + compartments(9, 0, 1) + "liquid 1;drop 0 9;");
        Check.due("not lawful", desk.washes(), -2);
        desk = Check.desk("tanker 1 0 0 0 0 99 100 0 0;compartment 9 0 open;compartment 9 2 open;liquid 1;drop 0 9;drop 0 9;");
        Check.due("no order", desk.washes(), -2);
        // One that is not empty is not washed, nor filled up.
        desk = Check.desk(FREE + compartments(9, 5, 1) + "liquid 1;liquid 1;bar 1 0;drop 1 5;drop 0 4;");
        desk.put(0, 0);
        Check.due("not empty", desk.washes(), -2);
        desk.unload(0, 5);
        Check.due("empty", desk.washes(), 1);
        Check.due("TOP 0", Check.desk("tanker 1 0 0 0 9 9 1 0 0;" + compartments(99, 0, 5) + "liquid 1;drop 0 1;").washes(), -2);
    }

    /** "The first that is so: NONE: no such LIQUID, QUANTITY not 1 to 4995; -2: 4 WAIT; .." */
    private static void asksRefused() {
        TankerDesk desk = Check.desk(FREE + compartments(9, 5, 1) + "liquid 1;liquid 1;");
        for (int liquid : new int[] {-1, 2, 5, 6, LEAST, MOST}) {
            Check.due("no such liquid", desk.asks(liquid, 1), -1);
        }
        for (int quantity : new int[] {0, -1, 4996, 9999, LEAST, MOST}) {
            Check.due("no such quantity", desk.asks(0, quantity), -1);
        }
        Check.due("no drop came", desk.now(2), 0);
        Check.due("1", desk.asks(0, 1), 0);
        Check.due("4995", desk.asks(1, 4995), 1);
        dropIs("1", desk, 0, 0, 1, 0, 0, 0, 0);
        dropIs("4995", desk, 1, 1, 4995, 0, 0, 0, 0);
        Check.due("the third", desk.asks(0, 9), 2);
        Check.due("the fourth", desk.asks(0, 9), 3);
        Check.due("4 wait", desk.asks(0, 9), -2);
        Check.due("NONE ahead of -2", desk.asks(2, 9), -1);
        Check.due("NONE ahead of -2", desk.asks(0, 4996), -1);
        desk.put(0, 1);
        Check.due("loaded in part it waits", desk.asks(0, 9), -2);
        desk.empty(0);
        desk.put(0, 3);
        Check.due("one is aboard", desk.asks(0, 9), 4);
        Check.due("4 wait again", desk.asks(0, 9), -2);
        desk.cancel(0);
        Check.due("one is cancelled", desk.asks(0, 9), 5);
        desk.unload(3, 9);
        Check.due("one that was aboard is done: 4 wait still", desk.asks(0, 9), -2);
    }

    /** "-3: 20 ever were told." */
    private static void asksTwenty() {
        TankerDesk desk = Check.desk(FREE + compartments(9, 5, 1) + "liquid 1;drop 0 1;drop 0 2;");
        for (int d = 2; d < 20; d++) {
            desk.cancel(d - 2);
            Check.due("asks", desk.asks(0, d + 1), d);
        }
        desk.asks(0, 1);
        Check.due("20 were told, 2 wait", desk.asks(0, 1), -3);
        Check.due("NONE ahead of -3", desk.asks(0, 0), -1);
        Check.due("NONE ahead of -3", desk.asks(1, 1), -1);
        Check.due("now(2)", desk.now(2), 20);
        dropIs("the twentieth", desk, 19, 0, 20, 0, 0, 0, 0);
        Check.due("no more", Check.drop(desk, 20, 0), Check.THROWN);
        desk.cancel(18);
        desk.cancel(19);
        Check.due("none waits, 20 were told", desk.asks(0, 1), -3);
        // A new text tells anew.
        Check.tell(desk, FREE + "liquid 1;");
        Check.due("a new text", desk.asks(0, 1), 0);
        // -2 ahead of -3: 4 wait and 20 were told.
        desk = Check.desk(FREE + compartments(9, 5, 1) + "liquid 1;drop 0 1;drop 0 2;drop 0 3;drop 0 4;");
        for (int d = 4; d < 20; d++) {
            desk.cancel(d - 4);
            desk.asks(0, 5);
        }
        Check.due("20", desk.now(2), 20);
        Check.due("-2 ahead of -3", desk.asks(0, 1), -2);
        desk.cancel(16);
        Check.due("-3 alone", desk.asks(0, 1), -3);
    }

    /** "A DROP that WAITS, nothing of it LOADED, is CANCELLED: true. False: no such one, it is not so." */
    private static void cancelRefused() {
        TankerDesk desk = Check.desk(FREE + compartments(9, 5, 3) + "liquid 1;drop 0 10;drop 0 5;drop 0 4;");
        for (int no : NO_INDEX) {
            Check.due("no such one", desk.cancel(no), false);
        }
        Check.due("no such one", desk.cancel(3), false);
        TankerDesk one = Check.desk(FREE + compartments(1, 5, 1) + "liquid 1;drop 0 2;");
        one.put(0, 0);
        Check.due("1 is loaded", one.cancel(0), false);
        desk.put(0, 0);
        Check.due("some is loaded", desk.cancel(0), false);
        desk.put(1, 1);
        Check.due("aboard", desk.cancel(1), false);
        desk.unload(1, 0);
        Check.due("done", desk.cancel(1), false);
        Check.due("nothing is loaded", desk.cancel(2), true);
        Check.due("cancelled", desk.cancel(2), false);
        desk.empty(0);
        Check.due("it went back", desk.cancel(0), true);
        dropIs("cancelled", desk, 0, 0, 10, 0, 3, 0, 0);
        Check.due("three acts and three", desk.now(8), 6);
    }

    /** "What a DROP that WAITS lacks is put into an empty COMPARTMENT, up to TOP: how much." */
    private static void putUpToTop() {
        TankerDesk desk = Check.desk("tanker 10 0 0 0 0 0 50 0 100;" + compartments(19, 5, 4) + "liquid 1;drop 0 9;drop 0 10;drop 0 8;");
        Check.due("at TOP", desk.put(0, 0), 9);
        Check.due("aboard", Check.drop(desk, 0, 3), 1);
        Check.due("above TOP", desk.put(1, 1), 9);
        Check.due("waits", Check.drop(desk, 1, 3), 0);
        Check.due("what it lacks", desk.put(2, 1), 1);
        Check.due("aboard", Check.drop(desk, 1, 3), 1);
        Check.due("below TOP, though not lawful", desk.put(3, 2), 8);
        Check.due("surge", desk.now(6), 1);
        Check.due("the greatest", Check.desk(FREE + compartments(999, 5, 1) + "liquid 1;drop 0 4995;").put(0, 0), 999);
    }

    /** "The first that is so: NONE: no such ones, it does not WAIT; -2: not empty; -3: its LIQUID may not come into it; -4: TOP is 0." */
    private static void putRefused() {
        TankerDesk desk = Check.desk("tanker 10 0 0 0 9999 9999 50 0 0;" + compartments(20, 5, 2) + compartments(1, 5, 2)
                + "liquid 1;liquid 1;bar 1 0;bar 1 1;last 1 1;last 3 1;drop 0 5;drop 1 6;drop 0 30;drop 0 7;");
        for (int no : NO_INDEX) {
            Check.due("no such compartment", desk.put(no, 0), -1);
            Check.due("no such drop", desk.put(0, no), -1);
        }
        Check.due("no such compartment", desk.put(4, 0), -1);
        Check.due("no such drop", desk.put(0, 4), -1);
        Check.due("-3", desk.put(1, 0), -3);
        Check.due("-3 ahead of -4", desk.put(3, 0), -3);
        Check.due("-4", desk.put(2, 0), -4);
        desk.cancel(3);
        Check.due("cancelled: NONE", desk.put(0, 3), -1);
        Check.due("cancelled: NONE ahead of -3", desk.put(1, 3), -1);
        Check.due("cancelled: NONE ahead of -4", desk.put(2, 3), -1);
        desk.put(0, 1);
        Check.due("aboard: NONE ahead of -2", desk.put(0, 1), -1);
        Check.due("-2 ahead of -3", desk.put(0, 0), -2);
        desk.unload(1, 6);
        Check.due("done: NONE", desk.put(0, 1), -1);
        Check.due("done: NONE ahead of -4", desk.put(2, 1), -1);
        desk.wash(0);
        Check.due("in part", desk.put(0, 2), 10);
        Check.due("-2: it holds the same drop", desk.put(0, 2), -2);
        Check.due("-2 without -3", desk.put(0, 0), -2);
        Check.due("no such drop ahead of -2", desk.put(0, 4), -1);
        desk = Check.desk(FREE + compartments(9, 5, 1) + "liquid 1;drop 0 1;drop 0 2;");
        desk.put(0, 0);
        Check.due("-2: it holds 1", desk.put(0, 1), -2);
        Check.due("-1 ahead of -2", desk.put(0, 0), -1);
        Check.due("it holds 1 still", desk.compartment(0, 4), 1);
    }

    /** "-2: there is no PLAN; NONE: it serves none." */
    private static void loadRefused() {
        Check.due("nothing told", new TankerDesk().load(), -1);
        Check.due("none waits", Check.desk(FREE + compartments(9, 5, 1) + "liquid 1;").load(), -1);
        Check.due("too much", Check.desk(FREE + compartments(9, 5, 1) + "liquid 1;drop 0 10;").load(), -1);
        Check.due("no plan", Check.desk("tanker 1 5 0 0 4 0 100 0 0;" + compartments(9, 5, 1) + "liquid 1;drop 0 9;").load(), -2);
        TankerDesk desk = Check.desk(FREE + compartments(9, 5, 3) + "liquid 1;drop 0 10;drop 0 19;drop 0 4;");
        desk.put(2, 1);
        Check.due("it serves one", desk.plan(0), 1);
        Check.due("load", desk.load(), 1);
        Check.due("one act", desk.now(8), 2);
        Check.due("put in by the plan", desk.compartment(0, 5), 2);
        Check.due("how much", desk.compartment(0, 4), 4);
        Check.due("the other gets none", desk.compartment(1, 4), 0);
        Check.due("what lay there stays", desk.compartment(2, 4), 9);
        Check.due("it serves none", desk.load(), -1);
        Check.due("no further act", desk.now(8), 2);
        // All five compartments, to the last.
        desk = Check.desk(FREE + compartments(9, 5, 5) + "liquid 1;drop 0 37;drop 0 4995;");
        Check.due("all five", desk.load(), 1);
        for (int c = 0; c < 5; c++) {
            Check.due("held by " + c, desk.compartment(c, 4), c < 4 ? 9 : 1);
            Check.due("of which drop", desk.compartment(c, 5), 0);
        }
        // What waits stays, and bars every plan.
        desk = Check.desk("tanker 1 0 0 0 8 99 100 0 0;" + compartments(9, 0, 2) + "liquid 1;drop 0 10;drop 0 1;");
        desk.put(0, 0);
        Check.due("no plan", desk.load(), -2);
    }

    /** "metered 0 to LOADED: it is DONE; SHORT." "SHORT of a DROP: what was LOADED less what was metered, as it was unloaded." */
    private static void unloadMetered() {
        for (int metered = 0; metered <= 15; metered++) {
            TankerDesk desk = Check.desk(FREE + compartments(10, 5, 3) + "liquid 1;drop 0 15;drop 0 4;");
            desk.put(0, 0);
            desk.put(2, 0);
            desk.put(1, 1);
            Check.due("unload(0, " + metered + ")", desk.unload(0, metered), 15 - metered);
            dropIs("done", desk, 0, 0, 15, 0, 2, metered, 15 - metered);
            Check.due("both are empty", desk.compartment(0, 4) + desk.compartment(2, 4), 0);
            Check.due("of no drop", desk.compartment(0, 5) + desk.compartment(2, 5), -2);
            Check.due("the other stays", desk.compartment(1, 4), 4);
        }
    }

    /** "The first that is so: NONE: no such one, it is not ABOARD, another number; -2: the tanker would not be LAWFUL behind it." */
    private static void unloadRefused() {
        TankerDesk desk = Check.desk("tanker 1 0 0 5 99 99 100 0 0;" + compartments(9, 0, 3) + "liquid 1;drop 0 5;drop 0 4;drop 0 10;drop 0 1;");
        desk.put(0, 0);
        desk.put(1, 1);
        desk.put(2, 2);
        for (int no : NO_INDEX) {
            Check.due("no such one", desk.unload(no, 0), -1);
        }
        Check.due("no such one", desk.unload(4, 0), -1);
        Check.due("it waits, in part", desk.unload(2, 9), -1);
        Check.due("it waits", desk.unload(3, 0), -1);
        for (int metered : new int[] {-1, 6, LEAST, MOST}) {
            Check.due("another number", desk.unload(0, metered), -1);
        }
        desk.empty(2);
        Check.due("below LEAST behind it", desk.unload(0, 5), -2);
        Check.due("below LEAST behind it", desk.unload(0, 0), -2);
        Check.due("NONE ahead of -2", desk.unload(0, 6), -1);
        Check.due("NONE ahead of -2", desk.unload(0, -1), -1);
        Check.due("at LEAST behind it", desk.unload(1, 4), 0);
        Check.due("it is done", desk.unload(1, 4), -1);
        desk.cancel(3);
        Check.due("it is cancelled", desk.unload(3, 0), -1);
        // How it stands now does not matter.
        desk = Check.desk("tanker 1 0 0 0 5 99 100 0 0;" + compartments(9, 0, 2) + "liquid 1;drop 0 5;drop 0 6;");
        desk.put(0, 0);
        desk.put(1, 1);
        Check.due("not lawful now", desk.now(6), 2);
        Check.due("6 stay: not lawful", desk.unload(0, 5), -2);
        Check.due("5 stay: lawful", desk.unload(1, 6), 0);
    }

    /** "What lies in a COMPARTMENT goes back: how much (the DROP WAITS then, if it was ABOARD)." */
    private static void emptyGoesBack() {
        TankerDesk desk = Check.desk(FREE + compartments(9, 5, 2) + "liquid 1;drop 0 11;");
        desk.put(0, 0);
        desk.put(1, 0);
        dropIs("aboard", desk, 0, 0, 11, 11, 1);
        Check.due("empty(1)", desk.empty(1), 2);
        dropIs("waits", desk, 0, 0, 11, 9, 0);
        Check.due("what it holds", desk.compartment(1, 4), 0);
        Check.due("of which", desk.compartment(1, 5), -1);
        Check.due("empty(0)", desk.empty(0), 9);
        dropIs("waits", desk, 0, 0, 11, 0, 0);
        Check.due("no law is asked", Check.desk("tanker 1 5 0 0 4 0 100 0 0;").empty(0), -1);
    }

    /** "The first that is so: NONE: no such one, it is empty; -2: the DROP is ABOARD and 4 others WAIT." */
    private static void emptyRefused() {
        TankerDesk desk = Check.desk(FREE + compartments(9, 5, 3) + "liquid 1;drop 0 11;drop 0 10;drop 0 5;drop 0 5;");
        for (int no : NO_INDEX) {
            Check.due("no such one", desk.empty(no), -1);
        }
        Check.due("no such one", desk.empty(3), -1);
        Check.due("it is empty", desk.empty(0), -1);
        desk.put(0, 0);
        desk.put(1, 0);
        Check.due("the fourth that waits", desk.asks(0, 5), 4);
        Check.due("aboard, 4 others wait", desk.empty(0), -2);
        Check.due("aboard, 4 others wait", desk.empty(1), -2);
        Check.due("empty, 4 wait", desk.empty(2), -1);
        desk.put(2, 1);
        Check.due("a drop that waits goes back, though 4 wait", desk.empty(2), 9);
        desk.cancel(4);
        Check.due("aboard, 3 others wait", desk.empty(0), 9);
        Check.due("4 wait", desk.asks(0, 5), -2);
        Check.due("its other part: it waits, 3 others too", desk.empty(1), 2);
    }

    /** "An empty COMPARTMENT that is not CLEAN is washed: CLEAN: true. False: no such one, it is not so." */
    private static void washRefused() {
        TankerDesk desk = Check.desk(FREE + compartments(9, 5, 3) + "liquid 1;last 0 0;last 2 0;drop 0 5;");
        for (int no : NO_INDEX) {
            Check.due("no such one", desk.wash(no), false);
        }
        Check.due("no such one", desk.wash(3), false);
        Check.due("CLEAN", desk.wash(1), false);
        Check.due("not CLEAN", desk.wash(0), true);
        Check.due("CLEAN now", desk.wash(0), false);
        desk.put(1, 0);
        Check.due("not empty", desk.wash(1), false);
        TankerDesk one = Check.desk(FREE + compartments(9, 5, 1) + "liquid 1;drop 0 1;");
        one.put(0, 0);
        Check.due("it holds 1", one.wash(0), false);
        desk.unload(0, 5);
        Check.due("empty again", desk.wash(1), true);
        Check.due("done", desk.now(7), 2);
        Check.due("LAST", desk.compartment(1, 6), -1);
        Check.due("the other is as told", desk.compartment(2, 6), 0);
    }

    /** "how many more can be (10 at most are kept); NONE: none is." */
    private static void undoOfTen() {
        TankerDesk desk = Check.desk(FREE + compartments(9, 5, 1) + "liquid 1;");
        Check.due("none is", desk.undo(), -1);
        // Three times round: each time one act more is kept, undone wholly, till ten are.
        for (int acts = 1; acts <= 23; acts++) {
            desk = Check.desk(FREE + compartments(9, 5, 1) + "liquid 1;drop 0 1;drop 0 2;");
            String[] pictures = new String[acts + 1];
            for (int i = 0; i < acts; i++) {
                pictures[i] = Check.picture(desk);
                if (i % 2 == 0) {
                    Check.due("put", desk.put(0, 0) > 0, true);
                } else {
                    Check.due("empty", desk.empty(0) > 0, true);
                }
                Check.due("kept", desk.now(8), Math.min(i + 1, 10));
            }
            int kept = Math.min(acts, 10);
            for (int left = kept - 1; left >= 0; left--) {
                Check.due("undo()", desk.undo(), left);
                String want = pictures[acts - kept + left];
                // How many can be undone is another number than it was, once more than ten acts were done.
                boolean same = acts <= 10 ? Check.picture(desk).equals(want)
                        : desk.compartment(0, 4) == (acts - kept + left) % 2;
                Check.due("as it was", same, true);
            }
            Check.due("none is", desk.undo(), -1);
            Check.due("none is", desk.undo(), -1);
        }
        // Acts behind an undo are kept in their turn.
        desk = Check.desk(FREE + compartments(9, 5, 1) + "liquid 1;");
        for (int i = 0; i < 30; i++) {
            desk.asks(0, i + 1);
            desk.cancel(0);
            Check.due("undo()", desk.undo(), 1);
            Check.due("undo()", desk.undo(), 0);
        }
        Check.due("none is", desk.undo(), -1);
        Check.due("no drop is left", desk.now(2), 0);
    }

    /** "The latest asks(), cancel(), put(), load(), unload(), empty(), wash() that was not refused is undone". */
    private static void undoEachSort() {
        Supplier<TankerDesk> make = () -> Check.desk(FREE + compartments(9, 5, 3) + "liquid 1;liquid 2;last 2 1;drop 0 15;drop 1 5;");
        TankerDesk desk = make.get();
        String[] pictures = new String[8];
        pictures[0] = Check.wholePicture(desk);
        Check.due("asks", desk.asks(1, 2), 2);
        pictures[1] = Check.wholePicture(desk);
        Check.due("cancel", desk.cancel(1), true);
        pictures[2] = Check.wholePicture(desk);
        Check.due("put", desk.put(1, 0), 9);
        pictures[3] = Check.wholePicture(desk);
        Check.due("load", desk.load(), 2);
        pictures[4] = Check.wholePicture(desk);
        Check.due("unload", desk.unload(2, 1), 1);
        pictures[5] = Check.wholePicture(desk);
        Check.due("empty", desk.empty(1), 9);
        pictures[6] = Check.wholePicture(desk);
        Check.due("wash", desk.wash(1), true);
        for (int i = 6; i >= 0; i--) {
            // Refused calls, questions and the tape between them are not undone.
            desk.put(-1, -1);
            desk.asks(0, 0);
            desk.plan(0);
            Check.due("undo", desk.undo(), i);
            Check.due("undone wholly: " + i, Check.wholePicture(desk).equals(pictures[i]), true);
        }
        Check.due("as told", Check.wholePicture(desk).equals(Check.wholePicture(make.get())), true);
    }

    /** One drop is aboard, one done, one cancelled, 4 wait, one of them in part; eight acts can be undone. */
    private static TankerDesk busy() {
        TankerDesk desk = Check.desk("tanker 10 0 0 0 9999 9999 90 0 0;" + compartments(10, 5, 4) + "compartment 1 5 open;"
                + "liquid 1;liquid 1;bar 1 0;last 2 1;drop 0 9;drop 0 12;drop 0 3;drop 1 4;");
        desk.put(3, 2);
        desk.unload(2, 1);
        desk.asks(0, 7);
        desk.cancel(4);
        desk.put(0, 0);
        desk.put(1, 1);
        desk.asks(1, 5);
        desk.asks(0, 6);
        Check.tape(desk, HALF_TEXT);
        return desk;
    }

    private static void refused(String call, Supplier<TankerDesk> make, ToIntFunction<TankerDesk> act, int due) {
        Check.due(call, act.applyAsInt(make.get()), due);
        Check.changesNothing(call, make, act::applyAsInt);
    }

    /** "A refused call, one that throws changes nothing." */
    private static void refusedCallsChangeNothing() {
        Supplier<TankerDesk> busy = DeskEdgesTest::busy;
        refused("end(-1)", busy, desk -> desk.end(-1) ? 1 : 0, 0);
        refused("end(41)", busy, desk -> desk.end(41) ? 1 : 0, 0);
        refused("drop(7, 0)", busy, desk -> Check.drop(desk, 7, 0), Check.THROWN);
        refused("drop(0, 6)", busy, desk -> Check.drop(desk, 0, 6), Check.THROWN);
        refused("asks(2, 1)", busy, desk -> desk.asks(2, 1), -1);
        refused("asks(0, 0)", busy, desk -> desk.asks(0, 0), -1);
        refused("asks(0, 4996)", busy, desk -> desk.asks(0, 4996), -1);
        refused("asks(0, 1)", busy, desk -> desk.asks(0, 1), -2);
        refused("cancel(0)", busy, desk -> desk.cancel(0) ? 1 : 0, 0);
        refused("cancel(1)", busy, desk -> desk.cancel(1) ? 1 : 0, 0);
        refused("cancel(2)", busy, desk -> desk.cancel(2) ? 1 : 0, 0);
        refused("cancel(4)", busy, desk -> desk.cancel(4) ? 1 : 0, 0);
        refused("cancel(7)", busy, desk -> desk.cancel(7) ? 1 : 0, 0);
        refused("put(5, 3)", busy, desk -> desk.put(5, 3), -1);
        refused("put(3, 7)", busy, desk -> desk.put(3, 7), -1);
        refused("put(3, 0)", busy, desk -> desk.put(3, 0), -1);
        refused("put(3, 2)", busy, desk -> desk.put(3, 2), -1);
        refused("put(3, 4)", busy, desk -> desk.put(3, 4), -1);
        refused("put(0, 1)", busy, desk -> desk.put(0, 1), -2);
        refused("put(2, 1)", busy, desk -> desk.put(2, 1), -3);
        refused("put(4, 1)", busy, desk -> desk.put(4, 1), -4);
        refused("unload(1, 1)", busy, desk -> desk.unload(1, 1), -1);
        refused("unload(2, 1)", busy, desk -> desk.unload(2, 1), -1);
        refused("unload(4, 0)", busy, desk -> desk.unload(4, 0), -1);
        refused("unload(7, 0)", busy, desk -> desk.unload(7, 0), -1);
        refused("unload(0, 10)", busy, desk -> desk.unload(0, 10), -1);
        refused("unload(0, -1)", busy, desk -> desk.unload(0, -1), -1);
        refused("empty(2)", busy, desk -> desk.empty(2), -1);
        refused("empty(5)", busy, desk -> desk.empty(5), -1);
        refused("empty(0)", busy, desk -> desk.empty(0), -2);
        refused("wash(0)", busy, desk -> desk.wash(0) ? 1 : 0, 0);
        refused("wash(4)", busy, desk -> desk.wash(4) ? 1 : 0, 0);
        refused("wash(5)", busy, desk -> desk.wash(5) ? 1 : 0, 0);
        Supplier<TankerDesk> full = DeskEdgesTest::fullTape;
        refused("feed(..)", full, desk -> desk.feed(1, 2, 3, 4, 5), -1);
        refused("undo()", full, TankerDesk::undo, -1);
        refused("load() without a plan", DeskEdgesTest::heavy, TankerDesk::load, -2);
        refused("unload() that is not lawful", DeskEdgesTest::heavy, desk -> desk.unload(1, 1), -2);
        refused("load() that serves none", () -> Check.desk(FREE + compartments(9, 5, 1) + "liquid 1;drop 0 10;"), TankerDesk::load, -1);
        refused("asks() of the 21st", DeskEdgesTest::twenty, desk -> desk.asks(0, 1), -3);
    }

    private static TankerDesk fullTape() {
        TankerDesk desk = Check.desk(FREE + compartments(9, 5, 1) + "liquid 1;drop 0 1;");
        Check.tape(desk, HALF_TEXT + "0;" + " ".repeat(740 - HALF_TEXT.length() - 2));
        desk.end(739);
        return desk;
    }

    private static TankerDesk heavy() {
        TankerDesk desk = Check.desk("tanker 1 0 0 0 8 99 100 0 0;" + compartments(9, 0, 3) + "liquid 1;drop 0 10;drop 0 1;drop 0 2;");
        desk.put(0, 0);
        desk.put(1, 1);
        return desk;
    }

    private static TankerDesk twenty() {
        TankerDesk desk = Check.desk(FREE + compartments(9, 5, 1) + "liquid 1;");
        for (int d = 0; d < 20; d++) {
            desk.asks(0, d + 1);
            desk.cancel(d);
        }
        return desk;
    }

    /** Nothing but what the promises tell changes: questions change nothing, whatever they are asked. */
    private static void questionsChangeNothing() {
        int[] any = {LEAST, -2, -1, 0, 1, 2, 3, 4, 5, 6, 10, 14, 20, 24, 4995, MOST};
        Check.changesNothing("questions", DeskEdgesTest::busy, desk -> {
            for (int a : any) {
                desk.now(a);
                desk.ordered(a);
                desk.without(a);
                desk.plan(a);
                for (int b : any) {
                    desk.compartment(a, b);
                    Check.drop(desk, a, b);
                    desk.may(a, b);
                    desk.would(a, b, 1);
                    desk.would(a, 0, b);
                }
            }
            desk.orders();
            desk.washes();
            desk.fault();
        });
    }
}
