/** Promises 6 to 23: ordinary inputs, the edges that the document names, wrong inputs. */
public final class DeskTest {
    private static final int LEAST = Integer.MIN_VALUE;
    private static final int MOST = Integer.MAX_VALUE;
    /** No limits of the axles, all may be filled, no surge. */
    private static final String FREE = "tanker 10 0 0 0 9999 9999 100 0 0;";

    public static void main(String[] args) {
        now();
        standing();
        surge();
        compartment();
        drop();
        may();
        would();
        orders();
        ordersOfFive();
        without();
        planAnswers();
        planChoice();
        planFilling();
        planLaw();
        washes();
        asks();
        cancel();
        put();
        load();
        unload();
        empty();
        wash();
        undo();
        undoEach();
        wrongInputs();
        Check.finish();
    }

    private static void row(String what, TankerDesk desk, int first, int... want) {
        for (int i = 0; i < want.length; i++) {
            Check.due(what + ": plan(" + (first + i) + ")", desk.plan(first + i), want[i]);
        }
    }

    private static void now() {
        TankerDesk desk = Check.desk("tanker 20 30 40 0 9999 9999 50 0 0;compartment 100 5 open;compartment 60 25 baffled;"
                + "liquid 3;liquid 4;liquid 5;bar 0 1;bar 1 0;bar 0 1;bar 2 2;drop 1 50;drop 2 10;");
        int[] want = {2, 3, 2, 3, 600, 800, 0, 0, 0, 0};
        for (int what = 0; what < want.length; what++) {
            Check.due("now(" + what + ")", desk.now(what), want[what]);
        }
        Check.due("put", desk.put(0, 0), 50);
        Check.due("FRONT: 50 of 4 at 15", desk.now(4), 600 + 200 * 15);
        Check.due("REAR: 50 of 4 at 5", desk.now(5), 800 + 200 * 5);
        Check.due("put", desk.put(1, 1), 10);
        // X may be above W: what lies there lifts the front.
        Check.due("FRONT: 10 of 5 at -5", desk.now(4), 600 + 3000 - 250);
        Check.due("REAR: 10 of 5 at 25", desk.now(5), 800 + 1000 + 1250);
        Check.due("now(8)", desk.now(8), 2);
        Check.tape(desk, "abc");
        Check.due("now(9)", desk.now(9), 3);
        for (int what : new int[] {-1, 10, 11, LEAST, MOST}) {
            Check.due("now(" + what + ")", desk.now(what), -100000000);
        }
    }

    private static int standsOf(String numbers, int quantity) {
        return Check.desk("tanker " + numbers + ";compartment 100 4 open;liquid 2;").would(0, 0, quantity);
    }

    private static void standing() {
        // 10 of density 2 at X 4 of W 10: FRONT has 120 more, REAR 80 more.
        Check.due("FRONT at MOST", standsOf("10 5 6 0 17 14 100 0 0", 10), 0);
        Check.due("FRONT above MOST", standsOf("10 5 6 0 16 14 100 0 0", 10), 2);
        Check.due("FRONT at LEAST", standsOf("10 5 6 17 17 14 100 0 0", 10), 0);
        Check.due("FRONT below LEAST", standsOf("10 5 6 18 18 14 100 0 0", 10), 3);
        Check.due("REAR above HIND", standsOf("10 5 6 0 17 13 100 0 0", 10), 4);
        Check.due("2 ahead of 3", standsOf("10 5 6 18 16 14 100 0 0", 10), 2);
        Check.due("2 ahead of 4", standsOf("10 5 6 0 16 13 100 0 0", 10), 2);
        Check.due("3 ahead of 4", standsOf("10 5 6 18 18 13 100 0 0", 10), 3);
        Check.due("1 ahead of 2", standsOf("10 5 6 0 16 13 100 5 50", 10), 1);
        Check.due("empty, as told", standsOf("10 5 6 5 5 6 100 5 50", 0), 0);
        Check.due("empty, above", standsOf("10 5 6 0 4 6 100 5 50", 0), 2);
        Check.due("empty, below", standsOf("10 5 6 6 6 6 100 5 50", 0), 3);
        Check.due("empty, rear", standsOf("10 5 6 0 5 5 100 5 50", 0), 4);
        Check.due("12 twentieths above", standsOf("10 0 0 0 1 99 100 0 0", 1), 2);
        Check.due("now(6) says it", Check.desk("tanker 10 5 6 6 6 6 100 0 0;").now(6), 3);
    }

    private static void surge() {
        TankerDesk desk = Check.desk("tanker 10 0 0 0 9999 9999 100 20 80;compartment 33 4 open;compartment 33 4 baffled;liquid 1;");
        Check.due("20 hundredths of 33 are 6.6", desk.would(0, 0, 6), 0);
        Check.due("above 6.6", desk.would(0, 0, 7), 1);
        Check.due("80 hundredths of 33 are 26.4", desk.would(0, 0, 26), 1);
        Check.due("above 26.4", desk.would(0, 0, 27), 0);
        Check.due("baffled", desk.would(1, 0, 15), 0);
        desk = Check.desk("tanker 10 0 0 0 9999 9999 100 20 80;compartment 10 4 open;liquid 1;");
        Check.due("at LOW", desk.would(0, 0, 2), 0);
        Check.due("above LOW", desk.would(0, 0, 3), 1);
        Check.due("below HIGH", desk.would(0, 0, 7), 1);
        Check.due("at HIGH", desk.would(0, 0, 8), 0);
        desk = Check.desk("tanker 10 0 0 0 9999 9999 100 0 100;compartment 10 4 open;liquid 1;");
        Check.due("empty", desk.would(0, 0, 0), 0);
        Check.due("one", desk.would(0, 0, 1), 1);
        Check.due("full", desk.would(0, 0, 10), 0);
    }

    private static void compartment() {
        TankerDesk desk = Check.desk("tanker 9 0 0 0 9999 9999 33 0 0;compartment 10 7 open;compartment 999 99 baffled;"
                + "compartment 3 0 open;liquid 1;liquid 2;last 1 0;last 2 1;last 1 1;drop 0 4;");
        int[][] want = {{10, 7, 1, 3, 0, -1, -1}, {999, 99, 0, 329, 0, -1, 1}, {3, 0, 1, 0, 0, -1, 1}};
        for (int c = 0; c < 3; c++) {
            for (int what = 0; what < 7; what++) {
                Check.due("compartment(" + c + ", " + what + ")", desk.compartment(c, what), want[c][what]);
            }
            Check.due("another what", desk.compartment(c, 7), -1);
            Check.due("another what", desk.compartment(c, -1), -1);
        }
        Check.due("put", desk.put(0, 0), 3);
        Check.due("it holds", desk.compartment(0, 4), 3);
        Check.due("of", desk.compartment(0, 5), 0);
        Check.due("LAST is what lies in it", desk.compartment(0, 6), 0);
        for (int c : new int[] {-1, 3, 5, LEAST, MOST}) {
            Check.due("compartment(" + c + ", 0)", desk.compartment(c, 0), -1);
        }
        Check.due("full to FILL 100", Check.desk(FREE + "compartment 7 1 open;").compartment(0, 3), 7);
    }

    private static void dropIs(String when, TankerDesk desk, int drop, int... want) {
        for (int what = 0; what < 6; what++) {
            Check.due(when + ": drop(" + drop + ", " + what + ")", Check.drop(desk, drop, what), want[what]);
        }
    }

    private static void drop() {
        TankerDesk desk = Check.desk(FREE + "compartment 10 5 open;compartment 10 5 open;liquid 1;liquid 2;drop 1 15;drop 0 4;");
        dropIs("told", desk, 0, 1, 15, 0, 0, 0, 0);
        desk.put(0, 0);
        dropIs("in part", desk, 0, 1, 15, 10, 0, 0, 0);
        desk.put(1, 0);
        dropIs("aboard", desk, 0, 1, 15, 15, 1, 0, 0);
        Check.due("unload", desk.unload(0, 9), 6);
        dropIs("done", desk, 0, 1, 15, 0, 2, 9, 6);
        desk.cancel(1);
        dropIs("cancelled", desk, 1, 0, 4, 0, 3, 0, 0);
        for (int d : new int[] {-1, 2, 20, LEAST, MOST}) {
            Check.due("drop(" + d + ", 0)", Check.drop(desk, d, 0), Check.THROWN);
        }
        for (int what : new int[] {-1, 6, LEAST, MOST}) {
            Check.due("drop(0, " + what + ")", Check.drop(desk, 0, what), Check.THROWN);
        }
    }

    private static void may() {
        TankerDesk desk = Check.desk(FREE + "compartment 10 5 open;compartment 10 5 open;liquid 1;liquid 2;"
                + "bar 0 1;bar 1 1;last 0 0;drop 1 5;drop 0 5;");
        Check.due("last 0, 0 comes", desk.may(0, 0), true);
        Check.due("last 0, 1 comes", desk.may(0, 1), false);
        Check.due("clean, 1 comes", desk.may(1, 1), true);
        desk.put(1, 0);
        Check.due("1 lies there, 1 comes", desk.may(1, 1), false);
        Check.due("1 lies there, 0 comes", desk.may(1, 0), true);
        desk.empty(1);
        Check.due("1 lay there, 1 comes", desk.may(1, 1), false);
        desk.wash(1);
        Check.due("washed, 1 comes", desk.may(1, 1), true);
        for (int no : new int[] {-1, 2, LEAST, MOST}) {
            Check.due("no such compartment", desk.may(no, 0), false);
            Check.due("no such liquid", desk.may(1, no), false);
        }
    }

    private static void would() {
        TankerDesk desk = Check.desk("tanker 10 0 0 0 5 9999 100 0 0;compartment 10 5 open;compartment 10 5 open;"
                + "liquid 1;liquid 2;bar 0 1;last 0 0;drop 0 10;drop 0 1;");
        desk.put(0, 0);
        Check.due("10 of 1 at 5 by 10 are at 5", desk.now(6), 0);
        Check.due("one more", desk.would(1, 0, 1), 2);
        Check.due("in place of what lies there", desk.would(0, 0, 9), 0);
        Check.due("5 of density 2", desk.would(0, 1, 5), 0);
        Check.due("6 of density 2, though barred", desk.would(0, 1, 6), 2);
        Check.due("none", desk.would(0, 1, 0), 0);
        Check.due("above CAP", desk.would(0, 0, 11), -1);
        Check.due("below 0", desk.would(0, 0, -1), -1);
        Check.due("at CAP", desk.would(0, 0, 10), 0);
        for (int no : new int[] {-1, 2, LEAST, MOST}) {
            Check.due("no such compartment", desk.would(no, 0, 0), -1);
            Check.due("no such liquid", desk.would(0, no, 0), -1);
        }
        Check.due("no such quantity", desk.would(0, 0, MOST), -1);
        Check.due("no such quantity", desk.would(0, 0, LEAST), -1);
        Check.due("nothing came of it", desk.now(4), 50);
        Check.due("above TOP is fine", Check.desk("tanker 10 0 0 0 9999 9999 1 0 0;compartment 10 5 open;liquid 1;").would(0, 0, 10), 0);
    }

    private static void orders() {
        // FRONT must stay at 2 or more; what lies at X 2 of W 1 lifts it.
        TankerDesk desk = Check.desk("tanker 1 2 0 2 9999 9999 100 0 0;compartment 9 0 open;compartment 9 2 open;"
                + "compartment 9 0 open;liquid 1;drop 0 3;drop 0 2;drop 0 9;");
        Check.due("without any", desk.orders(), 1);
        Check.due("ordered(0)", desk.ordered(0), -1);
        desk.put(0, 0);
        desk.put(1, 1);
        // FRONT 2 + 3 - 2 = 3: behind drop 0 alone 0 is below 2.
        Check.due("orders()", desk.orders(), 1);
        Check.due("ordered(0)", desk.ordered(0), 1);
        Check.due("ordered(1)", desk.ordered(1), 0);
        Check.due("ordered(2)", desk.ordered(2), -1);
        Check.due("ordered(-1)", desk.ordered(-1), -1);
        Check.due("ordered(most)", desk.ordered(MOST), -1);
        Check.due("ordered(least)", desk.ordered(LEAST), -1);
        desk.put(2, 2);
        // 9 more in front: drop 0 may go ahead of 1, as long as 2 is there.
        Check.due("three of them", desk.orders(), 4);
        Check.due("ordered(0)", desk.ordered(0), 0);
        Check.due("ordered(1)", desk.ordered(1), 1);
        Check.due("ordered(2)", desk.ordered(2), 2);
        // No order: what waits stays, and bars all.
        desk = Check.desk("tanker 1 0 0 0 4 9999 100 0 0;compartment 5 0 open;compartment 5 0 open;liquid 1;drop 0 9;drop 0 1;");
        desk.put(0, 0);
        Check.due("above, none aboard", desk.now(6), 2);
        Check.due("one order of none, though not lawful", desk.orders(), 1);
        desk.put(1, 1);
        Check.due("no order", desk.orders(), 0);
        Check.due("ordered(0)", desk.ordered(0), -1);
        // How it stands ahead of the first does not matter.
        desk = Check.desk("tanker 1 0 0 0 4 9999 100 0 0;compartment 5 0 open;compartment 5 0 open;liquid 1;drop 0 4;drop 0 1;");
        desk.put(0, 0);
        desk.put(1, 1);
        Check.due("above", desk.now(6), 2);
        Check.due("orders()", desk.orders(), 2);
    }

    private static void ordersOfFive() {
        TankerDesk desk = Check.desk(FREE + "compartment 5 5 open;".repeat(5) + "liquid 1;" + "drop 0 5;".repeat(4));
        for (int d = 0; d < 4; d++) {
            desk.put(4 - d, d);
        }
        Check.due("asks", desk.asks(0, 5), 4);
        desk.put(0, 4);
        Check.due("five at will", desk.orders(), 120);
        for (int k = 0; k < 5; k++) {
            Check.due("ordered(" + k + ")", desk.ordered(k), k);
        }
        Check.due("ordered(5)", desk.ordered(5), -1);
        Check.due("unload", desk.unload(2, 5), 0);
        Check.due("four at will", desk.orders(), 24);
        Check.due("ordered(2)", desk.ordered(2), 3);
    }

    private static void without() {
        TankerDesk desk = Check.desk("tanker 1 0 0 0 4 9999 100 0 0;compartment 5 0 open;compartment 5 0 open;compartment 5 0 open;"
                + "liquid 1;drop 0 4;drop 0 1;drop 0 6;");
        desk.put(0, 0);
        desk.put(1, 1);
        desk.put(2, 2);
        Check.due("without 0: 6 lie there", desk.without(0), 2);
        Check.due("without 2: it waits", desk.without(2), -1);
        desk.empty(2);
        Check.due("without 0", desk.without(0), 0);
        Check.due("without 1", desk.without(1), 0);
        for (int no : new int[] {-1, 3, LEAST, MOST}) {
            Check.due("no such one", desk.without(no), -1);
        }
        desk.unload(0, 4);
        Check.due("it is done", desk.without(0), -1);
        // In two compartments: both are gone.
        desk = Check.desk("tanker 1 0 0 5 99 9999 100 0 0;compartment 5 0 open;compartment 5 0 open;liquid 1;drop 0 10;");
        desk.put(0, 0);
        desk.put(1, 0);
        Check.due("FRONT 10", desk.now(6), 0);
        Check.due("FRONT 0", desk.without(0), 3);
    }

    private static void planAnswers() {
        TankerDesk desk = Check.desk(FREE + "compartment 10 5 open;compartment 8 5 open;compartment 9 5 open;liquid 1;liquid 1;"
                + "bar 1 0;last 0 1;drop 0 12;drop 1 10;");
        row("two drops", desk, 0, 2, 3);
        row("two drops", desk, 10, 1, 0, 0, -1, -1);
        row("two drops", desk, 20, 10, 8, 4, -1, -1);
        for (int what : new int[] {-1, 2, 9, 13, 15, 19, 23, 25, 30, LEAST, MOST}) {
            Check.due("plan(" + what + ")", desk.plan(what), -1);
        }
        desk.put(1, 0);
        row("one is not empty", desk, 0, 2, 2);
        row("one is not empty", desk, 10, 1, -1, 0);
        row("one is not empty", desk, 20, 10, 0, 4);
        // No plan: the tanker is not lawful as it is and nothing mends that.
        desk = Check.desk("tanker 1 1 0 0 0 0 100 0 0;compartment 5 0 open;liquid 1;drop 0 5;");
        row("no plan", desk, 0, -2, -2);
        row("no plan", desk, 10, -2);
        row("no plan", desk, 20, -2);
        Check.due("no plan: load()", desk.load(), -2);
        // It is not lawful as it is, but with a drop put in it is: but then behind it it is not.
        desk = Check.desk("tanker 1 1 0 2 99 99 100 0 0;compartment 5 0 open;liquid 1;drop 0 5;");
        row("no order then", desk, 0, -2);
        // What waits in part holds the front down.
        desk = Check.desk("tanker 1 1 0 2 99 99 100 0 0;compartment 5 0 open;compartment 5 0 open;compartment 1 0 open;"
                + "liquid 1;drop 0 15;drop 0 5;");
        desk.put(0, 0);
        row("it is mended", desk, 0, 1, 1);
        row("it is mended", desk, 10, -1, 1, -1);
    }

    private static void planChoice() {
        // The most drops, though one of them needs fewer compartments by itself.
        TankerDesk desk = Check.desk(FREE + "compartment 10 5 open;compartment 10 5 open;liquid 1;drop 0 20;drop 0 10;drop 0 9;");
        row("most drops", desk, 0, 2, 2);
        row("most drops", desk, 10, 1, 2);
        row("most drops", desk, 20, 10, 9);
        // The fewest compartments, though the first ones get none.
        desk = Check.desk(FREE + "compartment 5 5 open;compartment 5 5 open;compartment 10 5 open;liquid 1;drop 0 10;");
        row("fewest compartments", desk, 0, 1, 1);
        row("fewest compartments", desk, 10, -1, -1, 0);
        // The least drop first, none behind all.
        desk = Check.desk(FREE + "compartment 10 5 open;compartment 10 5 open;compartment 10 5 open;liquid 1;drop 0 10;drop 0 10;");
        row("least drop", desk, 10, 0, 1, -1);
        // The first compartment gets the least drop, though the second would get a lesser one else.
        desk = Check.desk(FREE + "compartment 10 5 open;liquid 1;drop 0 11;drop 0 10;drop 0 10;");
        row("the least that goes", desk, 10, 1);
        desk.cancel(1);
        row("the next", desk, 10, 2);
        // A further drop is a greater one.
        desk = Check.desk(FREE + "compartment 10 5 open;compartment 10 5 open;liquid 1;drop 0 10;");
        desk.asks(0, 10);
        row("asked", desk, 10, 0, 1);
    }

    private static void planFilling() {
        // By numbers, each up to TOP; none may be left without any.
        TankerDesk desk = Check.desk("tanker 10 0 0 0 9999 9999 90 0 0;compartment 11 5 open;compartment 20 5 open;compartment 3 5 open;"
                + "liquid 1;drop 0 29;");
        row("three", desk, 0, 1, 3);
        row("three", desk, 20, 9, 18, 2);
        desk = Check.desk("tanker 10 0 0 0 9999 9999 90 0 0;compartment 11 5 open;compartment 20 5 open;liquid 1;drop 0 28;");
        row("one too much", desk, 0, 0, 0);
        row("one too much", desk, 10, -1, -1);
        // A compartment with TOP 0 gets none.
        desk = Check.desk("tanker 10 0 0 0 9999 9999 50 0 0;compartment 1 5 open;compartment 2 5 open;liquid 1;drop 0 1;");
        row("TOP 0", desk, 0, 1, 1);
        row("TOP 0", desk, 10, -1, 0);
        // What is lacked alone is put in.
        desk = Check.desk(FREE + "compartment 10 5 open;compartment 9 5 open;compartment 9 5 open;liquid 1;drop 0 19;");
        desk.put(0, 0);
        row("lacked", desk, 0, 1, 1);
        row("lacked", desk, 20, 0, 9, 0);
        // The liquid must come into each.
        desk = Check.desk(FREE + "compartment 10 5 open;compartment 10 5 open;compartment 10 5 open;liquid 1;liquid 1;bar 1 0;"
                + "last 1 1;drop 0 20;");
        row("barred", desk, 10, 0, -1, 0);
        // What a drop served lies in may not be followed by itself, but that is not looked at as it lies there.
        desk = Check.desk(FREE + "compartment 10 5 open;compartment 10 5 open;liquid 1;bar 0 0;drop 0 20;");
        row("barred by itself", desk, 10, 0, 0);
    }

    private static void planLaw() {
        // Surge: 5 in an open one of 10 is not lawful, so the baffled one gets it.
        TankerDesk desk = Check.desk("tanker 10 0 0 0 9999 9999 100 20 80;compartment 10 5 open;compartment 10 5 baffled;liquid 1;drop 0 5;");
        row("surge", desk, 10, -1, 0);
        // MOST: one of two drops alone.
        desk = Check.desk("tanker 1 0 0 0 10 9999 100 0 0;compartment 10 0 open;compartment 10 0 open;liquid 1;drop 0 6;drop 0 5;");
        row("too heavy in front", desk, 0, 1, 1);
        row("too heavy in front", desk, 10, 0, -1);
        // LEAST: the drop behind needs the drop in front, and must go ahead of it.
        desk = Check.desk("tanker 10 10 10 10 9999 9999 100 0 0;compartment 10 15 open;compartment 10 2 open;liquid 1;liquid 1;"
                + "bar 0 1;last 0 0;drop 0 10;drop 1 10;");
        row("one holds the other down", desk, 0, 2, 2);
        Check.due("load", desk.load(), 2);
        Check.due("orders", desk.orders(), 1);
        Check.due("first", desk.ordered(0), 0);
        // An order must be there: lawful all together, but not behind any one of them.
        desk = Check.desk("tanker 10 0 0 0 0 9999 100 0 0;compartment 10 5 open;compartment 10 15 open;liquid 1;drop 0 10;drop 0 10;");
        // 10 at 5 is above 0; 10 at 15 is below 0 in front: together they are at 0.
        Check.due("in front alone", desk.would(0, 0, 10), 2);
        Check.due("behind alone", desk.would(1, 0, 10), 3);
        row("no order of two", desk, 0, 0, 0);
        desk.put(0, 0);
        row("not lawful, but no order then either", desk, 0, -2);
        Check.due("load()", desk.load(), -2);
        // A drop aboard that bars the plan's order.
        desk = Check.desk("tanker 1 0 0 0 10 9999 100 0 0;compartment 10 0 open;compartment 10 0 open;liquid 1;drop 0 10;drop 0 5;");
        desk.put(0, 0);
        row("full in front", desk, 0, 0, 0);
        Check.due("load()", desk.load(), -1);
    }

    private static void washes() {
        TankerDesk desk = Check.desk(FREE + "compartment 10 5 open;compartment 10 5 open;compartment 10 5 open;liquid 1;liquid 1;"
                + "bar 1 0;last 0 1;last 1 1;drop 0 20;");
        Check.due("one of two", desk.washes(), 1);
        Check.due("asks", desk.asks(0, 10), 1);
        Check.due("both", desk.washes(), 2);
        Check.due("asks", desk.asks(1, 1), 2);
        Check.due("by none", desk.washes(), -2);
        desk.cancel(0);
        Check.due("it does", desk.washes(), 0);
        desk.cancel(1);
        desk.cancel(2);
        Check.due("none waits", desk.washes(), 0);
        Check.due("nothing came of it", desk.now(7), 0);
        // More compartments, but fewer washes than the fewest compartments would need.
        desk = Check.desk(FREE + "compartment 10 5 open;compartment 5 5 open;compartment 5 5 open;liquid 1;liquid 1;"
                + "bar 1 0;last 0 1;drop 0 10;");
        Check.due("two small ones", desk.washes(), 0);
        // One that is not empty is not washed.
        desk = Check.desk(FREE + "compartment 10 5 open;liquid 1;liquid 1;bar 1 0;drop 0 10;drop 1 10;");
        desk.put(0, 1);
        Check.due("not empty", desk.washes(), -2);
        // No plan without any drop that waits.
        desk = Check.desk("tanker 1 1 0 0 0 0 100 0 0;compartment 5 0 open;liquid 1;");
        Check.due("no plan", desk.washes(), -2);
    }

    private static void asks() {
        TankerDesk desk = Check.desk(FREE + "compartment 10 5 open;liquid 1;liquid 1;drop 0 5;");
        for (int no : new int[] {-1, 2, LEAST, MOST}) {
            Check.due("no such liquid", desk.asks(no, 5), -1);
        }
        for (int no : new int[] {0, -1, 4996, LEAST, MOST}) {
            Check.due("no such quantity", desk.asks(0, no), -1);
        }
        Check.due("asks", desk.asks(1, 4995), 1);
        dropIs("asked", desk, 1, 1, 4995, 0, 0, 0, 0);
        Check.due("asks", desk.asks(0, 1), 2);
        Check.due("asks", desk.asks(0, 1), 3);
        Check.due("four wait", desk.asks(0, 1), -2);
        Check.due("NONE ahead of -2", desk.asks(0, 0), -1);
        desk.put(0, 0);
        Check.due("one is aboard", desk.asks(0, 1), 4);
        for (int d = 5; d < 20; d++) {
            Check.due("cancel", desk.cancel(d - 1), true);
            Check.due("asks", desk.asks(0, 1), d);
        }
        Check.due("-2 ahead of -3", desk.asks(0, 1), -2);
        Check.due("cancel", desk.cancel(19), true);
        Check.due("20 were told", desk.asks(0, 1), -3);
        Check.due("NONE ahead of -3", desk.asks(2, 1), -1);
        Check.due("now(2)", desk.now(2), 20);
        Check.due("undo", desk.undo(), 9);
        Check.due("undo", desk.undo(), 8);
        Check.due("asks", desk.asks(1, 7), 19);
        dropIs("asked anew", desk, 19, 1, 7, 0, 0, 0, 0);
    }

    private static void cancel() {
        TankerDesk desk = Check.desk(FREE + "compartment 10 5 open;compartment 10 5 open;liquid 1;drop 0 15;drop 0 5;drop 0 5;");
        for (int no : new int[] {-1, 3, LEAST, MOST}) {
            Check.due("no such one", desk.cancel(no), false);
        }
        desk.put(0, 0);
        Check.due("some is loaded", desk.cancel(0), false);
        desk.put(1, 1);
        Check.due("aboard", desk.cancel(1), false);
        desk.unload(1, 5);
        Check.due("done", desk.cancel(1), false);
        Check.due("waits", desk.cancel(2), true);
        Check.due("cancelled", desk.cancel(2), false);
        desk.empty(0);
        Check.due("nothing is loaded any more", desk.cancel(0), true);
        Check.due("a cancelled one is not put", desk.put(0, 0), -1);
        Check.due("a cancelled one is not unloaded", desk.unload(0, 0), -1);
    }

    private static void put() {
        TankerDesk desk = Check.desk("tanker 10 0 0 0 0 0 50 0 100;compartment 20 5 open;compartment 20 5 open;compartment 1 5 open;"
                + "liquid 1;liquid 1;bar 1 0;last 1 1;last 2 1;drop 0 15;drop 1 3;");
        for (int no : new int[] {-1, 3, LEAST, MOST}) {
            Check.due("no such compartment", desk.put(no, 0), -1);
        }
        for (int no : new int[] {-1, 2, LEAST, MOST}) {
            Check.due("no such drop", desk.put(0, no), -1);
        }
        Check.due("up to TOP, though not lawful", desk.put(0, 0), 10);
        Check.due("not empty", desk.put(0, 1), -2);
        Check.due("barred", desk.put(1, 0), -3);
        Check.due("barred ahead of TOP 0", desk.put(2, 0), -3);
        Check.due("TOP 0", desk.put(2, 1), -4);
        Check.due("all of it", desk.put(1, 1), 3);
        Check.due("-2 ahead of -3", desk.put(1, 0), -2);
        Check.due("it is aboard", desk.put(1, 1), -1);
        Check.due("what can be undone", desk.now(8), 2);
        Check.due("LAST", desk.compartment(1, 6), 1);
        desk = Check.desk(FREE + "compartment 10 5 open;compartment 10 5 open;liquid 1;drop 0 13;");
        Check.due("put", desk.put(1, 0), 10);
        Check.due("what is lacked", desk.put(0, 0), 3);
        Check.due("aboard", Check.drop(desk, 0, 3), 1);
    }

    private static void load() {
        TankerDesk desk = Check.desk(FREE + "compartment 10 5 open;compartment 10 5 open;compartment 10 5 open;liquid 1;liquid 2;"
                + "drop 0 15;drop 1 9;");
        Check.due("load", desk.load(), 2);
        int[][] want = {{10, 0, 0}, {5, 0, 0}, {9, 1, 1}};
        for (int c = 0; c < 3; c++) {
            for (int i = 0; i < 3; i++) {
                Check.due("compartment(" + c + ", " + (4 + i) + ")", desk.compartment(c, 4 + i), want[c][i]);
            }
        }
        Check.due("aboard", Check.drop(desk, 0, 3), 1);
        Check.due("aboard", Check.drop(desk, 1, 3), 1);
        Check.due("it serves none", desk.load(), -1);
        Check.due("one act", desk.now(8), 1);
        Check.due("undo", desk.undo(), 0);
        Check.due("nothing lies there", desk.now(4) + desk.now(5), 0);
        Check.due("CLEAN again", desk.compartment(2, 6), -1);
    }

    private static void unload() {
        TankerDesk desk = Check.desk("tanker 10 0 0 0 9999 10 100 0 0;compartment 10 5 open;compartment 10 5 open;compartment 10 5 open;"
                + "liquid 1;drop 0 15;drop 0 9;drop 0 30;");
        desk.put(0, 0);
        Check.due("it waits", desk.unload(0, 5), -1);
        desk.put(1, 0);
        desk.put(2, 1);
        // REAR is 15 + 9 by 2: 12.
        Check.due("now(6)", desk.now(6), 4);
        for (int no : new int[] {-1, 16, LEAST, MOST}) {
            Check.due("no such number", desk.unload(0, no), -1);
        }
        for (int no : new int[] {-1, 3, LEAST, MOST}) {
            Check.due("no such drop", desk.unload(no, 0), -1);
        }
        Check.due("unload", desk.unload(0, 0), 15);
        Check.due("done", desk.unload(0, 0), -1);
        Check.due("empty", desk.compartment(0, 4) + desk.compartment(1, 4), 0);
        Check.due("of none", desk.compartment(0, 5), -1);
        Check.due("LAST", desk.compartment(0, 6), 0);
        Check.due("the other lies there", desk.compartment(2, 4), 9);
        Check.due("unload", desk.unload(1, 9), 0);
        // Behind it the tanker would not be lawful: NONE goes ahead.
        desk = Check.desk("tanker 1 0 0 1 99 99 100 0 0;compartment 10 0 open;compartment 10 0 open;liquid 1;drop 0 5;drop 0 11;");
        desk.put(0, 0);
        Check.due("below LEAST", desk.unload(0, 5), -2);
        Check.due("no such number", desk.unload(0, 6), -1);
        Check.due("it is aboard still", Check.drop(desk, 0, 3), 1);
        desk.put(1, 1);
        Check.due("what waits stays", desk.unload(0, 1), 4);
    }

    private static void empty() {
        TankerDesk desk = Check.desk(FREE + "compartment 10 5 open;compartment 10 5 open;liquid 1;drop 0 15;drop 0 5;drop 0 5;drop 0 5;");
        for (int no : new int[] {-1, 2, LEAST, MOST}) {
            Check.due("no such one", desk.empty(no), -1);
        }
        Check.due("empty", desk.empty(0), -1);
        desk.put(0, 0);
        desk.put(1, 0);
        Check.due("aboard", Check.drop(desk, 0, 3), 1);
        Check.due("asks", desk.asks(0, 5), 4);
        Check.due("four others wait", desk.empty(0), -2);
        Check.due("four others wait", desk.empty(1), -2);
        desk.cancel(4);
        Check.due("three others wait", desk.empty(1), 5);
        Check.due("it waits", Check.drop(desk, 0, 3), 0);
        Check.due("loaded", Check.drop(desk, 0, 2), 10);
        Check.due("LAST stays", desk.compartment(1, 6), 0);
        Check.due("of none", desk.compartment(1, 5), -1);
        Check.due("one that waits goes back, though four wait", desk.empty(0), 10);
    }

    private static void wash() {
        TankerDesk desk = Check.desk(FREE + "compartment 10 5 open;compartment 10 5 open;liquid 1;last 0 0;drop 0 5;");
        for (int no : new int[] {-1, 2, LEAST, MOST}) {
            Check.due("no such one", desk.wash(no), false);
        }
        Check.due("clean", desk.wash(1), false);
        desk.put(1, 0);
        Check.due("not empty", desk.wash(1), false);
        Check.due("wash", desk.wash(0), true);
        Check.due("CLEAN", desk.compartment(0, 6), -1);
        Check.due("washed already", desk.wash(0), false);
        desk.empty(1);
        Check.due("wash", desk.wash(1), true);
        Check.due("now(7)", desk.now(7), 2);
        desk.undo();
        Check.due("now(7)", desk.now(7), 1);
        Check.due("not clean", desk.compartment(1, 6), 0);
    }

    private static void undo() {
        TankerDesk desk = Check.desk(FREE + "compartment 10 5 open;liquid 1;");
        Check.due("none is", desk.undo(), -1);
        for (int d = 0; d < 6; d++) {
            Check.due("asks", desk.asks(0, 1), d);
            Check.due("cancel", desk.cancel(d), true);
        }
        Check.due("ten are kept", desk.now(8), 10);
        for (int left = 9; left >= 0; left--) {
            Check.due("undo", desk.undo(), left);
            Check.due("now(8)", desk.now(8), left);
        }
        Check.due("none is", desk.undo(), -1);
        Check.due("two acts stay", desk.now(2), 1);
        Check.due("two acts stay", Check.drop(desk, 0, 3), 3);
        desk.asks(0, 2);
        desk.asks(0, 3);
        Check.due("undo", desk.undo(), 1);
        Check.due("asks", desk.asks(0, 4), 2);
        Check.due("the latest", Check.drop(desk, 2, 1), 4);
        Check.due("undo", desk.undo(), 1);
        Check.due("undo", desk.undo(), 0);
        Check.due("now(2)", desk.now(2), 1);
    }

    /** Each act is undone wholly. */
    private static void undoEach() {
        TankerDesk desk = Check.desk(FREE + "compartment 10 5 open;compartment 10 5 open;compartment 10 5 open;liquid 1;liquid 2;"
                + "last 2 1;drop 0 15;drop 1 5;");
        String[] pictures = new String[8];
        pictures[0] = Check.picture(desk);
        Check.due("asks", desk.asks(1, 2), 2);
        pictures[1] = Check.picture(desk);
        Check.due("cancel", desk.cancel(1), true);
        pictures[2] = Check.picture(desk);
        Check.due("put", desk.put(1, 0), 10);
        pictures[3] = Check.picture(desk);
        Check.due("load", desk.load(), 2);
        pictures[4] = Check.picture(desk);
        Check.due("unload", desk.unload(2, 1), 1);
        pictures[5] = Check.picture(desk);
        Check.due("empty", desk.empty(1), 10);
        pictures[6] = Check.picture(desk);
        Check.due("wash", desk.wash(1), true);
        pictures[7] = Check.picture(desk);
        for (int i = 6; i >= 0; i--) {
            Check.due("undo", desk.undo(), i);
            Check.due("undone wholly: " + i, Check.picture(desk).equals(pictures[i]), true);
        }
    }

    /** Refused calls change nothing and keep nothing to be undone. */
    private static void wrongInputs() {
        TankerDesk desk = Check.desk(FREE + "compartment 10 5 open;compartment 10 5 open;liquid 1;bar 0 0;drop 0 10;drop 0 4;");
        desk.put(0, 0);
        String before = Check.picture(desk);
        int[] wrong = {LEAST, -2, -1, 2, 5, 6, 20, 700, MOST};
        for (int a : wrong) {
            for (int b : wrong) {
                desk.put(a, b);
                desk.asks(a, b);
                desk.unload(a, b);
                desk.would(a, b, a);
                desk.may(a, b);
            }
            desk.cancel(a);
            desk.empty(a);
            desk.wash(a);
            desk.ordered(a);
            desk.without(a);
            desk.plan(a);
            desk.end(a == 0 ? -1 : a);
        }
        Check.due("refused calls change nothing", Check.picture(desk).equals(before), true);
        desk.washes();
        desk.orders();
        desk.plan(0);
        Check.due("questions change nothing", Check.picture(desk).equals(before), true);
    }
}
