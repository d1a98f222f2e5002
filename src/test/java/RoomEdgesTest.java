/** The document's Terms, part 1, and (f) of part 2: each sentence that names an edge. Quotations are the document's. */
public final class RoomEdgesTest {
    private static final Due DUE = new Due();

    public static void main(String[] args) {
        rowsOfFour();
        heatAtFirst();
        heatIsAnInt();
        outsideAndWallsAtFirst();
        airAtFirst();
        outsideEnds();
        wallsEnds();
        wallsAreCut();
        airEnds();
        airIsCut();
        allAtOnce();
        machinesFirst();
        coolersLast();
        coolersAtFirst();
        aimEdges();
        takesEdges();
        tenMachines();
        machineEnds();
        speeds();
        limitEdges();
        feedsAtFirst();
        netEnds();
        pricesByDay();
        priceEnds();
        storeAtFirst();
        gaugesByMinutes();
        gaugesFollowHeat();
        gaugesAtFirst();
        DUE.end();
    }

    private static void is(String call, long got, long want) {
        DUE.is(call, got, want);
    }

    private static HotHall hall(int outside, int walls, int air) {
        HotHall x = new HotHall();
        x.room(outside, walls, air);
        return x;
    }

    private static void heatAll(HotHall x, int v) {
        for (int c = 0; c < 12; c++) {
            x.heat(c, v);
        }
    }

    private static void allAre(String what, HotHall x, int v) {
        for (int c = 0; c < 12; c++) {
            is(what + ", cell " + c, x.cell(c, 0), v);
        }
    }

    // ---- CELLS

    /** "CELLS 0 .. 11 lie in 3 rows of 4 (cell 4 r and c)"; "side by side (in a row, or over one another)". */
    private static void rowsOfFour() {
        DUE.part("rows of 4");
        int[][] beside = {{1, 4}, {0, 2, 5}, {1, 3, 6}, {2, 7}, {0, 5, 8}, {1, 4, 6, 9}, {2, 5, 7, 10}, {3, 6, 11},
            {4, 9}, {5, 8, 10}, {6, 9, 11}, {7, 10}};
        for (int c = 0; c < 12; c++) {
            HotHall x = hall(0, 0, 100);
            x.heat(c, 1000);
            x.minutes(1);
            int[] due = new int[12];
            due[c] = 1000 - 100 * beside[c].length;
            for (int b : beside[c]) {
                due[b] = 100;
            }
            for (int i = 0; i < 12; i++) {
                is("1000 in cell " + c + ", heat of " + i, x.cell(i, 0), due[i]);
            }
        }
    }

    /** "each has HEAT (0 at first". */
    private static void heatAtFirst() {
        DUE.part("heat at first");
        HotHall x = new HotHall();
        for (int c = 0; c < 12; c++) {
            is("cell " + c, x.cell(c, 0), 0);
            is("what it was", x.heat(c, 1), 0);
            is("what it was", x.heat(c, 100000), 1);
            is("what it was", x.heat(c, 0), 100000);
        }
    }

    /** "an int": below 0, too. 1000 less 500 through walls less four times 200. */
    private static void heatIsAnInt() {
        DUE.part("heat is an int");
        HotHall x = hall(0, 500, 200);
        x.heat(5, 1000);
        x.minutes(1);
        is("below 0", x.cell(5, 0), -300);
        is("what it was", x.heat(5, 0), -300);
        x = hall(0, 0, 0);
        heatAll(x, 100000);
        is("the sum", x.now(6), 1200000);
    }

    // ---- OUTSIDE, WALLS, AIR

    /** "OUTSIDE (.. 100 at first)"; "WALLS (.. 20)": 50000 above 100 loses 1000, 50049 above it no more. */
    private static void outsideAndWallsAtFirst() {
        DUE.part("outside and walls at first");
        int[][] rows = {{50100, 49100}, {50149, 49149}, {50150, 49149}, {50099, 49100}, {0, 2}, {100, 100}};
        for (int[] row : rows) {
            HotHall x = new HotHall();
            heatAll(x, row[0]);
            x.minutes(1);
            allAre("all at " + row[0], x, row[1]);
        }
    }

    /** "AIR (.. 100)": 10 more sends 1, 9 more sends none, 1000 more sends 100. */
    private static void airAtFirst() {
        DUE.part("air at first");
        int[][] rows = {{109, 109, 100}, {110, 108, 101}, {119, 117, 101}, {120, 116, 102}, {1100, 880, 200}};
        for (int[] row : rows) {
            HotHall x = new HotHall();
            heatAll(x, 100);
            x.heat(0, row[0]);
            x.minutes(1);
            is("cell 0 at " + row[0], x.cell(0, 0), row[1]);
            is("beside it", x.cell(1, 0), row[2]);
            is("under it", x.cell(4, 0), row[2]);
        }
    }

    /** "OUTSIDE (0 .. 500". */
    private static void outsideEnds() {
        DUE.part("outside ends");
        HotHall x = hall(0, 500, 0);
        x.heat(3, 8);
        x.minutes(1);
        is("8 goes half way to 0", x.cell(3, 0), 4);
        is("0 is as OUTSIDE", x.cell(4, 0), 0);
        x = hall(500, 500, 0);
        x.heat(3, 500);
        x.heat(4, 600);
        x.minutes(1);
        is("500 is as OUTSIDE", x.cell(3, 0), 500);
        is("600 goes half way to 500", x.cell(4, 0), 550);
        is("0 goes half way to 500", x.cell(5, 0), 250);
    }

    /** "WALLS (0 .. 500 thousandths". */
    private static void wallsEnds() {
        DUE.part("walls ends");
        int[][] rows = {{0, 100000}, {1, 99900}, {499, 50100}, {500, 50000}};
        for (int[] row : rows) {
            HotHall x = hall(0, row[0], 0);
            heatAll(x, 100000);
            x.minutes(1);
            allAre("WALLS " + row[0], x, row[1]);
        }
    }

    /** "(HEAT less OUTSIDE) times WALLS by 1000, cut, .. (comes, where it is below 0)": toward 0 on both sides. */
    private static void wallsAreCut() {
        DUE.part("walls are cut");
        int[][] rows = {{149, 149}, {150, 149}, {199, 198}, {200, 198}, {100, 100}, {51, 51}, {50, 51}, {1, 2}, {0, 2}};
        for (int[] row : rows) {
            HotHall x = hall(100, 20, 0);
            heatAll(x, row[0]);
            x.minutes(1);
            allAre("at " + row[0], x, row[1]);
        }
    }

    /** "AIR (0 .. 200 thousandths". */
    private static void airEnds() {
        DUE.part("air ends");
        int[][] rows = {{0, 100000, 0}, {1, 99800, 100}, {199, 60200, 19900}, {200, 60000, 20000}};
        for (int[] row : rows) {
            HotHall x = hall(0, 0, row[0]);
            x.heat(3, 100000);
            x.minutes(1);
            is("AIR " + row[0], x.cell(3, 0), row[1]);
            is("beside it", x.cell(2, 0), row[2]);
            is("under it", x.cell(7, 0), row[2]);
        }
    }

    /** "the difference times AIR by 1000, cut, goes from the hotter": whichever of the two that is. */
    private static void airIsCut() {
        DUE.part("air is cut");
        int[][] rows = {{4, 0}, {5, 1}, {9, 1}, {10, 2}};
        for (int[] row : rows) {
            for (int c : new int[] {0, 11}) {
                HotHall x = hall(0, 0, 200);
                x.heat(c, row[0]);
                x.minutes(1);
                is(row[0] + " in cell " + c, x.cell(c, 0), row[0] - 2 * row[1]);
                is("over or under it", x.cell(c == 0 ? 4 : 7, 0), row[1]);
                is("beside it", x.cell(c == 0 ? 1 : 10, 0), row[1]);
            }
        }
    }

    /** "from what is so: .. all at once". */
    private static void allAtOnce() {
        DUE.part("all at once");
        HotHall x = hall(0, 0, 200);
        x.heat(0, 1000);
        x.minutes(1);
        is("two on, nothing comes yet", x.cell(2, 0), 0);
        is("aslant, nothing comes yet", x.cell(5, 0), 0);
        is("beside it", x.cell(1, 0), 200);
        x.minutes(1);
        is("600 less 200, one fifth, twice", x.cell(0, 0), 440);
        is("200 and 80 less 40, twice", x.cell(1, 0), 200);
        is("one fifth of 200", x.cell(2, 0), 40);
        is("one fifth of 200, twice", x.cell(5, 0), 80);
        x = hall(0, 500, 200);
        x.heat(0, 1000);
        x.minutes(1);
        is("through walls and air of the same 1000", x.cell(0, 0), 1000 - 500 - 2 * 200);
    }

    /** "what each running MACHINE makes comes to its CELL; then, from what is so". */
    private static void machinesFirst() {
        DUE.part("machines first");
        HotHall x = hall(0, 500, 0);
        x.machine(7, 500, 0, 5000, 0);
        x.batch(0, 9, 9, 0);
        x.minutes(1);
        is("half of 1500", x.cell(7, 0), 750);
        x = hall(0, 0, 100);
        x.machine(7, 500, 0, 5000, 0);
        x.machine(7, 100, 0, 5000, 0);
        x.machine(7, 77, 0, 5000, 0);
        x.batch(0, 9, 9, 0);
        x.batch(0, 9, 9, 1);
        x.minutes(1);
        is("1500 and 300 in one cell, less three times 180; the third doesn't run", x.cell(7, 0), 1800 - 3 * 180);
        is("beside it", x.cell(6, 0), 180);
    }

    /** "then COOLERS take". */
    private static void coolersLast() {
        DUE.part("coolers last");
        HotHall x = hall(0, 500, 0);
        x.machine(7, 100, 0, 5000, 0);
        x.batch(0, 9, 9, 0);
        x.cooler(7, 100, 140);
        x.minutes(1);
        is("300, half goes, 10 more are taken", x.cell(7, 0), 140);
        x = hall(0, 0, 200);
        x.heat(0, 1000);
        x.cooler(1, 150, 0);
        x.minutes(1);
        is("200 come, 150 are taken", x.cell(1, 0), 50);
    }

    // ---- COOLERS

    /** "a cell's takes up to so much a minute (.. 0)". */
    private static void coolersAtFirst() {
        DUE.part("coolers at first");
        HotHall x = hall(0, 0, 0);
        heatAll(x, 100000);
        x.minutes(3);
        allAre("nothing is taken", x, 100000);
    }

    /** "what is above its AIM (0 .. 5000"; "HEAT less AIM (nothing below 0)". */
    private static void aimEdges() {
        DUE.part("aim");
        int[][] rows = {{200, 199, 199}, {200, 200, 200}, {200, 201, 200}, {0, 0, 0}, {0, 1, 0}, {5000, 4999, 4999},
            {5000, 5000, 5000}, {5000, 5001, 5000}, {5000, 15000, 5000}, {5000, 15001, 5001}};
        for (int[] row : rows) {
            for (int c : new int[] {0, 11}) {
                HotHall x = hall(0, 0, 0);
                x.cooler(c, 10000, row[0]);
                x.heat(c, row[1]);
                x.minutes(1);
                is("AIM " + row[0] + ", " + row[1] + " in cell " + c, x.cell(c, 0), row[2]);
            }
        }
        HotHall x = hall(0, 500, 200);
        x.heat(5, 1000);
        x.cooler(5, 10000, 0);
        x.minutes(1);
        is("below 0 nothing is taken", x.cell(5, 0), -300);
    }

    /** "up to so much a minute (0 .. 10000"; "the least of what they take, and HEAT less AIM". */
    private static void takesEdges() {
        DUE.part("takes");
        int[][] rows = {{0, 300, 300}, {1, 300, 299}, {99, 300, 201}, {100, 300, 200}, {101, 300, 200},
            {9999, 100000, 90001}, {10000, 100000, 90000}, {10000, 10200, 200}, {10000, 10201, 201}};
        for (int[] row : rows) {
            HotHall x = hall(0, 0, 0);
            x.cooler(6, row[0], 200);
            x.heat(6, row[1]);
            x.heat(7, row[1]);
            x.minutes(1);
            is("takes " + row[0] + " of " + row[1], x.cell(6, 0), row[2]);
            is("another cell's takes nothing", x.cell(7, 0), row[1]);
        }
    }

    // ---- MACHINES

    /** "MACHINES 0 .. 9, as they come". */
    private static void tenMachines() {
        DUE.part("ten machines");
        HotHall x = hall(0, 0, 0);
        for (int m = 0; m < 10; m++) {
            is("none yet, " + m, x.of(m, 4), HotHall.BAD);
            is("machine", x.machine(11 - m, 0, 0, 1, 0), m);
            is("how many", x.count(0), m + 1);
        }
        is("the 11th", x.machine(0, 0, 0, 1, 0), HotHall.FULL);
        is("how many", x.count(0), 10);
        for (int m = 0; m < 10; m++) {
            is("its cell", x.of(m, 4), 11 - m);
        }
    }

    /** "HEAT and POWER for each speed (0 .. 500 each)", "a FEED 0 .. 3". */
    private static void machineEnds() {
        DUE.part("machine ends");
        int[] values = {0, 1, 499, 500};
        for (int v : values) {
            HotHall x = hall(0, 0, 0);
            x.machine(9, v, 500 - v, 5000, 0);
            x.batch(0, 9, 9, 0);
            x.minutes(1);
            is("makes 3 times " + v, x.cell(9, 0), 3 * v);
            is("draws 3 times " + (500 - v), x.now(3), 3 * (500 - v));
        }
        for (int f = 0; f < 4; f++) {
            HotHall x = hall(0, 0, 0);
            for (int m = 0; m < 4; m++) {
                x.machine(0, 0, 1, 5000, m);
                x.batch(0, 9, 9, m);
            }
            x.feed(f, 0);
            x.minutes(1);
            for (int m = 0; m < 4; m++) {
                is("FEED " + f + " carries none, machine " + m, x.of(m, 2), m == f ? 2 : 0);
            }
        }
    }

    /** "At speed s a MACHINE makes s times its HEAT, draws s times its POWER, does s of a work." */
    private static void speeds() {
        DUE.part("speeds");
        for (int s = 0; s <= 3; s++) {
            HotHall x = hall(0, 0, 0);
            x.machine(2, 7, 11, 5000, 0);
            x.batch(0, 100, 99, 0);
            x.write('0' + s);
            x.minutes(1);
            is("speed", x.of(0, 1), s);
            is("makes", x.cell(2, 0), 7 * s);
            is("draws", x.now(3), 11 * s);
            is("does", x.work(0, 1), s);
        }
    }

    /** "a LIMIT (1 .. 5000)"; "no more than 1 if the GAUGE of its CELL is above its LIMIT". */
    private static void limitEdges() {
        DUE.part("limit");
        int[][] rows = {{1, 0, 3}, {1, 1, 3}, {1, 2, 1}, {2, 2, 3}, {2, 3, 1}, {4999, 4999, 3}, {4999, 5000, 1},
            {5000, 5000, 3}, {5000, 5001, 1}, {5000, 100000, 1}};
        for (int[] row : rows) {
            HotHall x = hall(0, 0, 0);
            x.late(0);
            x.machine(8, 0, 0, row[0], 0);
            x.batch(0, 100, 99, 0);
            x.heat(8, row[1]);
            x.minutes(1);
            is("LIMIT " + row[0] + " at " + row[1], x.of(0, 1), row[2]);
        }
        HotHall x = hall(0, 0, 0);
        x.late(0);
        x.machine(8, 0, 0, 100, 0);
        x.batch(0, 100, 99, 0);
        x.heat(7, 5000);
        x.minutes(1);
        is("another cell's gauge is nothing to it", x.of(0, 1), 3);
    }

    // ---- FEEDS, THE NET, PRICES, THE STORE

    /** "FEEDS carry so much (0 .. 10000; 10000 at first)": 6 machines at 1500 and 1000 more are 10000. */
    private static void feedsAtFirst() {
        DUE.part("feeds at first");
        for (int f = 0; f < 4; f++) {
            HotHall x = hall(0, 0, 0);
            for (int m = 0; m < 6; m++) {
                x.machine(0, 0, 500, 5000, f);
                x.batch(0, 100, 99, m);
            }
            x.machine(0, 0, 500, 5000, f);
            x.steady(0, 0, 99, 2, 6);
            x.machine(0, 0, 1, 5000, f);
            x.minutes(1);
            is("10000 on feed " + f, x.now(3), 10000);
            is("none tripped", x.of(6, 2) + x.of(5, 2), 0);
            x.steady(0, 1, 99, 1, 7);
            x.minutes(1);
            is("10001 on feed " + f + ": the last trips", x.of(7, 2), 2);
            is("that is enough", x.of(6, 2), 0);
            is("10000 are drawn", x.now(3), 10000);
            is("carried", x.feed(f, 0), 10000);
        }
    }

    /** "THE NET gives so much a minute (0 .. 100000; 100000 at first)": THE STORE takes what is left of it. */
    private static void netEnds() {
        DUE.part("net");
        int[][] rows = {{0, 0}, {1, 1}, {9999, 9999}, {10000, 10000}, {100000, 10000}};
        for (int[] row : rows) {
            HotHall x = hall(0, 0, 0);
            is("at first", x.net(row[0]), 100000);
            x.store(100000, 10000, 1000);
            x.minutes(1);
            is("of " + row[0], x.now(2), row[1]);
        }
        HotHall x = hall(0, 0, 0);
        x.machine(0, 0, 500, 5000, 0);
        x.batch(0, 9, 9, 0);
        x.store(100000, 10000, 1000);
        x.net(11499);
        x.minutes(1);
        is("1500 are drawn, 9999 are left", x.now(2), 9999);
        is("coin", x.now(7), 114990);
    }

    /** "at the PRICE of the minute (.. by minute left over by 24; 10 at first)": coin and p wrap as a day is over. */
    private static void pricesByDay() {
        DUE.part("prices by day");
        HotHall x = Halls.row(1);
        x.batch(0, 1000, 9999, 0);
        Halls.put(x, "1");
        x.minutes(1);
        is("10 at first", x.now(7), 100);
        for (int i = 0; i < 24; i++) {
            is("10 at first", x.price(i, 100 + i), 10);
        }
        Halls.put(x, "1+(p>122)+(p<102)");
        long coin = 100;
        for (int m = 1; m < 75; m++) {
            int of = m - m / 24 * 24;
            int speed = of == 23 || of < 2 ? 2 : 1;
            coin += 10 * speed * (100 + of);
            x.minutes(1);
            is("p in minute " + m, x.now(1), speed);
            is("coin behind minute " + m, x.now(7), coin);
        }
    }

    /** "PRICE of the minute (0 .. 1000". */
    private static void priceEnds() {
        DUE.part("price ends");
        int[] prices = {0, 1, 999, 1000};
        for (int p : prices) {
            HotHall x = Halls.row(1);
            x.batch(0, 900, 9999, 0);
            x.price(0, p);
            is("set", x.price(0, p), p);
            x.minutes(1);
            is("30 at " + p, x.now(7), 30 * p);
        }
    }

    /** "THE STORE has ROOM (.. 0), gives or takes RATE a minute (.. 0) ..: what is in it is 0 at first." */
    private static void storeAtFirst() {
        DUE.part("store at first");
        HotHall x = hall(0, 0, 0);
        is("empty", x.now(2), 0);
        is("ROOM may be 0", x.store(0, 10000, 1000), 1);
        x.minutes(1);
        is("no ROOM", x.now(2), 0);
        x.store(100000, 0, 1000);
        x.minutes(1);
        is("no RATE", x.now(2), 0);
        x = hall(0, 0, 0);
        x.minutes(9);
        is("at first it takes nothing", x.now(2), 0);
        is("and nothing is paid", x.now(7), 0);
        is("as there is no RATE and no ROOM", x.other(4, 10000, 9, 1), 0);
        x.store(100000, 10000, 1000);
        x.minutes(9);
        is("90000", x.now(2), 90000);
        x.minutes(2);
        is("ROOM 100000", x.now(2), 100000);
        is("all of it was paid", x.now(7), 1000000);
    }

    // ---- GAUGES

    /**
     * "GAUGES show HEAT of CELLS as it was D minutes (0 .. 5; 1) ago: 0: now, 1: as the last minute began, and so on
     * (0, if there was no such minute)": each D, each minute.
     */
    private static void gaugesByMinutes() {
        DUE.part("gauges");
        HotHall x = hall(0, 0, 0);
        is("1 at first", x.late(0), 1);
        for (int d = 1; d <= 5; d++) {
            is("what it was", x.late(d), d - 1);
        }
        is("below 0", x.late(-1), HotHall.BAD);
        is("above 5", x.late(6), HotHall.BAD);
        is("what it was", x.late(0), 5);
        for (int m = 0; m < 12; m++) {
            x.heat(11, 1000 + m);
            for (int d = 0; d <= 5; d++) {
                x.late(d);
                is("D " + d + " in minute " + m, x.cell(11, 1), m >= d ? 1000 + m - d : 0);
                is("another cell", x.cell(10, 1), 0);
            }
            x.heat(11, 500);
            x.heat(11, 1000 + m);
            x.minutes(1);
        }
    }

    /** The gauge of a minute is that of its beginning for D 0, too, and heat comes behind it. */
    private static void gaugesFollowHeat() {
        DUE.part("gauges follow heat");
        int[] slowFrom = {2, 3, 4, 5, 6, 7};
        for (int d = 0; d <= 5; d++) {
            HotHall x = hall(0, 0, 0);
            x.late(d);
            x.machine(4, 10, 0, 59, 0);
            x.batch(0, 1000, 9999, 0);
            for (int m = 0; m < 9; m++) {
                x.minutes(1);
                is("D " + d + ": 60 as minute 2 begins; minute " + m, x.of(0, 1), m < slowFrom[d] ? 3 : 1);
            }
        }
    }

    /** "(0, if there was no such minute)": a hot cell does not show in the first minutes. */
    private static void gaugesAtFirst() {
        DUE.part("gauges at first");
        for (int d = 0; d <= 5; d++) {
            HotHall x = hall(0, 0, 0);
            x.late(d);
            x.heat(0, 50);
            x.machine(0, 0, 0, 49, 0);
            x.batch(0, 1000, 9999, 0);
            for (int m = 0; m < 7; m++) {
                is("gauge, D " + d, x.cell(0, 1), m >= d ? 50 : 0);
                x.minutes(1);
                is("D " + d + ", minute " + m, x.of(0, 1), m >= d ? 1 : 3);
            }
        }
    }
}
