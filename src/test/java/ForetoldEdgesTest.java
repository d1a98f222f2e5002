import java.math.BigInteger;

/** The document's Terms, part 4, and promises 23 to 29: each sentence that names an edge. Quotations are the document's. */
public final class ForetoldEdgesTest {
    private static final Due DUE = new Due();

    public static void main(String[] args) {
        withinMinutes();
        foretoldBeyond9999();
        asIfTheyWentOn();
        asItGoes();
        placingOfNone();
        placingEightAtMost();
        placingAsManyAsCanBe();
        placingLeastSum();
        placingBelowZero();
        placingFirstAsARow();
        placingMayHave();
        placingOfGauges();
        withoutNone();
        withoutFewest();
        withoutLeastNumber();
        withoutAllOther();
        withoutEightAtMost();
        withoutNotOver();
        otherOutside();
        otherNet();
        otherAir();
        otherAim();
        otherAimWhereHeatComes();
        otherRate();
        otherMachine();
        otherMachinesThere();
        otherEndsOfV();
        otherMoreAndLess();
        otherFromNowOn();
        fittedNothing();
        fittedFirstSixty();
        fittedHundreds();
        fittedEnds();
        fittedLikest();
        fittedByProducts();
        drillsTold();
        worstMinutes();
        worstAsTheyAreNow();
        worstFirstOfLike();
        billOfAll();
        DUE.end();
    }

    private static void is(String call, long got, long want) {
        DUE.is(call, got, want);
    }

    // ---- "FORETOLD over n (1 .. 30) minutes: as if they went on"

    /** A work that breaks as its minute is over is found with it, not with one minute less. */
    private static void withinMinutes() {
        DUE.part("within n minutes");
        for (int now : new int[] {0, 7}) {
            for (int by = 0; by <= 31; by++) {
                HotHall x = Halls.row(1);
                Halls.go(x, now);
                x.steady(0, now, now + by, 3, -1);
                x.batch(0, 999, now + by, -1);
                for (int n : new int[] {1, 2, 29, 30}) {
                    boolean breaks = n > by;
                    is("without " + n + " by " + by, x.without(n), breaks ? 2 : 0);
                    is("other " + n + " by " + by, x.other(1, -100000, n, 0), breaks ? 1 : 0);
                    is("coin within " + n, x.other(1, -100000, n, 1), -300 * Math.min(n, by + 1));
                }
            }
        }
    }

    /** "BAD: beyond minute 9999, too" is told of minutes: what is foretold goes beyond it, by the same prices and rules. */
    private static void foretoldBeyond9999() {
        DUE.part("beyond 9999");
        HotHall x = Halls.row(1);
        Halls.go(x, 9999);
        is("minute", x.now(0), 9999);
        is("no minute goes", x.minutes(1), HotHall.BAD);
        x.steady(0, 9999, 9999, 3, -1);
        is("done in minute 9999", x.without(1), 0);
        is("and behind it", x.without(30), 0);
        is("30 are drawn once", x.other(1, -100000, 30, 1), -300);
        Halls.put(x, "(m<9999)*3");
        is("m is 9999", x.without(1), 1);
        Halls.put(x, "(m=9999)*3");
        is("m is 9999", x.without(1), 0);
        x.erase();
        x.batch(0, 999, 9999, -1);
        is("breaks as minute 9999 is over", x.without(1), 2);
        x.drill(0, 0, 0, 30);
        is("35 minutes more", x.worst(1), 2);
        is("nothing has gone", x.now(0), 9999);
    }

    /** Nothing that is foretold is so thereafter: RefusalsTest asks for all; here by the minute that then goes. */
    private static void asIfTheyWentOn() {
        DUE.part("as if they went on");
        HotHall x = Halls.busy();
        HotHall twin = Halls.busy();
        for (int i = 0; i < 8; i++) {
            x.placing(HotHall.NONE);
            x.without(30);
            for (int what = 0; what < 6; what++) {
                x.other(what, 9, 30, 1);
            }
            x.worst(1);
            x.check();
            is("broke", x.minutes(1), twin.minutes(1));
            is("digest", x.digest(), twin.digest());
        }
    }

    /** What is foretold of a hall is what then comes, whatever of it is changed ahead. */
    private static void asItGoes() {
        DUE.part("as it goes");
        for (Changes.Change change : Changes.all()) {
            String name = change.name();
            HotHall x = changed(change);
            HotHall plain = changed(change);
            HotHall other = changed(change);
            int net = other.net(0);
            other.net(net - 80);
            long plainBroke = plain.minutes(9);
            long otherBroke = other.minutes(9);
            is(name + ": broke", x.other(1, -80, 9, 0), otherBroke - plainBroke);
            is(name + ": coin", x.other(1, -80, 9, 1), other.now(7) - plain.now(7));
            for (int d = 0; d < 4; d++) {
                x.drill(d, name.equals("OUTSIDE") ? 231 : 130, net - 80, 6);
            }
            other = changed(change);
            other.net(net - 80);
            int broke = other.minutes(6);
            other.net(net);
            is(name + ": drilled", x.worst(1), broke + other.minutes(5));
            x.begin();
            x.minutes(30);
            is(name + ": gone over again", x.check(), HotHall.NONE);
        }
    }

    private static HotHall changed(Changes.Change change) {
        HotHall x = Halls.busy();
        change.on().accept(x);
        return x;
    }

    // ---- THE BEST PLACING

    /** "0 of none". */
    private static void placingOfNone() {
        DUE.part("placing of none");
        HotHall x = Halls.row(2);
        x.late(0);
        x.heat(0, 5);
        x.heat(1, 6);
        is("no work", x.placing(HotHall.NONE), 0);
        x.steady(0, 1, 1, 3, -1);
        is("not yet open", x.placing(HotHall.NONE), 0);
        is("not yet open", x.placing(0), Halls.BAD_HEAT);
        x.minutes(1);
        is("open", x.placing(HotHall.NONE), 5);
        is("open", x.placing(0), 0);
        x.minutes(1);
        is("over", x.placing(HotHall.NONE), 0);
        is("over", x.placing(0), Halls.BAD_HEAT);
        x = Halls.still();
        x.batch(0, 1, 9, -1);
        is("no machine", x.placing(HotHall.NONE), 0);
        is("no machine", x.placing(0), HotHall.NONE);
    }

    /** "WORKS that are OPEN, 8 at most (else none)": those that are not open don't count. */
    private static void placingEightAtMost() {
        DUE.part("placing, 8 at most");
        HotHall x = Halls.row(10);
        x.late(0);
        for (int m = 0; m < 10; m++) {
            x.heat(m, 100 - m);
        }
        for (int w = 0; w < 7; w++) {
            x.batch(0, 999, 999, -1);
        }
        x.steady(0, 1, 2, 1, -1);
        x.batch(0, 999, 1, -1);
        is("8 are open", x.now(4), 8);
        is("the eight coolest, 91 to 98", x.placing(HotHall.NONE), 756);
        is("first as a row", x.placing(0), 2);
        is("the last", x.placing(8), 9);
        x.minutes(1);
        is("9 are open", x.now(4), 9);
        is("none", x.placing(HotHall.NONE), Halls.NO_PLACING);
        is("none", x.placing(0), Halls.NO_PLACING);
        is("none", x.placing(8), Halls.NO_PLACING);
        is("wrong comes first", x.placing(9), Halls.BAD_HEAT);
        is("wrong comes first", x.placing(-2), Halls.BAD_HEAT);
        x.minutes(1);
        is("8 are open again", x.now(4), 8);
        is("the eight coolest", x.placing(HotHall.NONE), 756);
        is("one that is over", x.placing(8), Halls.BAD_HEAT);
        is("the last", x.placing(7), 9);
    }

    /** "of all ways to place as many as can be": two hot ones rather than a cool one. */
    private static void placingAsManyAsCanBe() {
        DUE.part("as many as can be");
        HotHall x = Halls.row(2);
        x.late(0);
        x.heat(0, 100000);
        x.batch(0, 9, 9, -1);
        x.batch(0, 9, 9, 1);
        is("both", x.placing(HotHall.NONE), 100000);
        is("0 gives way", x.placing(0), 0);
        is("its own", x.placing(1), 1);
        x.batch(0, 9, 9, 0);
        is("two at most", x.placing(HotHall.NONE), 100000);
        is("none first", x.placing(0), HotHall.NONE);
        is("its own", x.placing(1), 1);
        is("its own", x.placing(2), 0);
        x = Halls.row(10);
        x.late(0);
        for (int m = 0; m < 10; m++) {
            x.heat(m, 100000);
        }
        for (int w = 0; w < 8; w++) {
            x.batch(0, 9, 9, w < 4 ? -1 : w);
        }
        is("eight", x.placing(HotHall.NONE), 800000);
        for (int w = 0; w < 8; w++) {
            is("first as a row", x.placing(w), w);
        }
    }

    /** "that with the least sum of GAUGES of their CELLS". */
    private static void placingLeastSum() {
        DUE.part("least sum");
        HotHall x = Halls.row(4);
        x.late(0);
        int[] heats = {40, 10, 30, 20};
        for (int m = 0; m < 4; m++) {
            x.heat(m, heats[m]);
        }
        int[] sums = {10, 30, 60, 100, 100};
        for (int w = 0; w < 5; w++) {
            x.batch(0, 9, 9, -1);
            is("sum of " + (w + 1), x.placing(HotHall.NONE), sums[w]);
        }
        x = Halls.still();
        x.late(0);
        x.machine(5, 0, 0, 5000, 0);
        x.machine(5, 0, 0, 5000, 0);
        x.heat(5, 7);
        x.batch(0, 9, 9, -1);
        x.batch(0, 9, 9, -1);
        is("two in one cell", x.placing(HotHall.NONE), 14);
    }

    /** GAUGES below 0 are less than 0, and one that shows 0 is placed at rather than none. */
    private static void placingBelowZero() {
        DUE.part("below 0");
        HotHall x = new HotHall();
        x.room(0, 500, 200);
        x.late(0);
        x.heat(5, 1000);
        x.minutes(1);
        x.machine(0, 0, 0, 5000, 0);
        x.machine(1, 0, 0, 5000, 0);
        x.machine(5, 0, 0, 5000, 0);
        x.batch(0, 9, 9, -1);
        is("-300", x.placing(HotHall.NONE), -300);
        is("the least", x.placing(0), 2);
        x.batch(0, 9, 9, -1);
        is("-300 and 0", x.placing(HotHall.NONE), -300);
        is("first as a row", x.placing(0), 0);
        is("then", x.placing(1), 2);
        x.batch(0, 9, 9, -1);
        is("-300, 0 and 200", x.placing(HotHall.NONE), -100);
        is("all", x.placing(2), 2);
    }

    /** "of like ones the first as a row by WORKS that are OPEN (by numbers; none first)". */
    private static void placingFirstAsARow() {
        DUE.part("first as a row");
        // pins of works; due machines, all gauges being alike, of three machines
        int[][] pins = {{-1}, {-1, -1}, {-1, -1, -1}, {-1, -1, -1, -1}, {-1, -1, -1, -1, -1}, {-1, 0}, {-1, 0, 1}, {0, 0},
            {0, 0, 0}, {2, -1, 2}, {-1, 1, 1, -1}, {-1, -1, 2, 2}, {0, -1, 0, -1}, {1, -1, -1, -1}};
        int[][] due = {{0}, {0, 1}, {0, 1, 2}, {-1, 0, 1, 2}, {-1, -1, 0, 1, 2}, {1, 0}, {2, 0, 1}, {-1, 0},
            {-1, -1, 0}, {-1, 0, 2}, {0, -1, 1, 2}, {0, 1, -1, 2}, {-1, 1, 0, 2}, {-1, 0, 1, 2}};
        for (int i = 0; i < pins.length; i++) {
            HotHall x = Halls.row(3);
            for (int pin : pins[i]) {
                x.batch(0, 9, 9, pin);
            }
            for (int w = 0; w < pins[i].length; w++) {
                is("row " + i + ", work " + w, x.placing(w), due[i][w]);
            }
            is("sum", x.placing(HotHall.NONE), 0);
        }
        HotHall x = Halls.row(2);
        x.house(0, 9, 0, 0);
        x.batch(0, 9, 9, -1);
        x.batch(1, 9, 9, -1);
        is("by numbers, not by THE ORDER", x.placing(0), 0);
        is("by numbers, not by THE ORDER", x.placing(1), 1);
    }

    /** "each at one MACHINE that may have it, one each": as told of (b), as it is now. */
    private static void placingMayHave() {
        DUE.part("may have it");
        HotHall x = Halls.row(2);
        x.feed(0, 30);
        x.batch(0, 99, 99, 0);
        x.batch(0, 99, 99, 1);
        x.minutes(1);
        for (int yet = 2; yet >= 0; yet--) {
            is("minutes yet", x.of(1, 2), yet);
            is("1 is " + yet + " minutes yet tripped", x.placing(1), yet > 0 ? HotHall.NONE : 1);
            is("0 is not", x.placing(0), 0);
            x.minutes(1);
        }
        x = Halls.row(2);
        x.batch(0, 99, 99, 0);
        x.odds(1, 0, Halls.lotFor(0));
        x.minutes(1);
        is("0 failed", x.of(0, 3), 1);
        is("it has none", x.placing(0), HotHall.NONE);
        x.batch(0, 99, 99, -1);
        is("the other has", x.placing(1), 1);
        Halls.go(x, 40);
        is("for good", x.placing(0), HotHall.NONE);
    }

    /** "GAUGES": late ones, as they show now. */
    private static void placingOfGauges() {
        DUE.part("placing of gauges");
        for (int d = 0; d <= 5; d++) {
            HotHall x = Halls.row(2);
            x.late(d);
            x.batch(0, 999, 999, -1);
            x.heat(0, 9);
            x.heat(1, 4);
            for (int m = 0; m < 7; m++) {
                is("sum, D " + d + ", minute " + m, x.placing(HotHall.NONE), m >= d ? 4 : 0);
                is("machine", x.placing(0), m >= d ? 1 : 0);
                x.minutes(1);
            }
        }
    }

    // ---- THE LEAST WITHOUT

    /** "NONE: there is no such set", and the empty one. */
    private static void withoutNone() {
        DUE.part("without none");
        HotHall x = Halls.still();
        is("no works", x.without(1), 0);
        is("no works", x.without(30), 0);
        x.steady(0, 3, 5, 1, -1);
        is("nothing is open, nothing breaks yet", x.without(5), 0);
        is("nothing is open, one breaks", x.without(6), HotHall.NONE);
        x.minutes(3);
        is("it is open", x.without(3), 1);
        is("it is open", x.without(2), 0);
    }

    /** "that with the fewest": one rather than two, though its number as bits is greater. */
    private static void withoutFewest() {
        DUE.part("fewest");
        HotHall x = Halls.row(2);
        x.steady(0, 0, 2, 3, 0);
        x.steady(0, 0, 2, 3, 1);
        x.steady(1, 0, 2, 3, 0);
        is("0 or 2 must be left: 0", x.without(3), 1);
        x.steady(0, 1, 1, 3, 0);
        is("and 3, which can't be: 0 and 2", x.without(3), 5);
        x = Halls.row(3);
        x.net(60);
        for (int m = 0; m < 2; m++) {
            x.steady(0, 0, 2, 1, m);
        }
        x.steady(0, 0, 2, 3, 2);
        is("10, 10 and 30 are 50", x.without(3), 0);
        x.net(49);
        is("one of them at least: the first is enough", x.without(3), 1);
        x.net(39);
        is("of 50 more than 10 are too much: the third alone", x.without(3), 4);
        x.net(29);
        is("the third alone", x.without(3), 4);
        x.net(19);
        is("the third and one more", x.without(3), 5);
        x.net(9);
        is("all", x.without(3), 7);
    }

    /** "of like ones the least number as bits": works 8 to 15 are the open ones. */
    private static void withoutLeastNumber() {
        DUE.part("least number");
        HotHall x = Halls.row(8);
        for (int w = 0; w < 8; w++) {
            x.batch(0, 3, 0, w);
        }
        x.minutes(1);
        is("all are kept", x.count(2), 8);
        for (int w = 8; w < 16; w++) {
            x.steady(0, 1, 5, 1, w - 8);
        }
        for (int fit = 0; fit <= 8; fit++) {
            x.net(10 * fit);
            is(fit + " can run", x.without(5), ((1 << 8 - fit) - 1) << 8);
        }
        is("within 4 none breaks", x.without(4), 0);
    }

    /** "without which none of all other WORKS that are not over BREAKS": those that are not yet open, too. */
    private static void withoutAllOther() {
        DUE.part("all other");
        HotHall x = Halls.row(1);
        x.steady(0, 0, 9, 3, -1);
        x.steady(1, 4, 4, 3, -1);
        is("within 4", x.without(4), 0);
        is("within 5 the second breaks by the first", x.without(5), 1);
        x.house(0, 1, 0, 0);
        is("the first breaks, but later", x.without(5), 0);
        is("then it is to be left", x.without(10), 1);
        x.house(0, 0, 0, 0);
        x.steady(2, 4, 4, 3, -1);
        is("the second or the third breaks by the other", x.without(5), HotHall.NONE);
    }

    /** "WORKS that are OPEN (8 at most)". */
    private static void withoutEightAtMost() {
        DUE.part("without, 8 at most");
        HotHall x = Halls.still();
        for (int w = 0; w < 8; w++) {
            x.batch(0, 1, 3, -1);
        }
        x.steady(0, 2, 20, 1, -1);
        is("8: all are left", x.without(4), 255);
        x.minutes(2);
        is("9", x.without(1), HotHall.NO);
        is("9", x.without(30), HotHall.NO);
        is("wrong comes first", x.without(0), HotHall.BAD);
        is("wrong comes first", x.without(31), HotHall.BAD);
        x.minutes(2);
        is("8 are over", x.without(16), 0);
        is("8 are over", x.without(17), 256);
    }

    /** Those that are over break no more; what was done ahead counts. */
    private static void withoutNotOver() {
        DUE.part("not over");
        HotHall x = Halls.row(1);
        x.batch(0, 3, 0, -1);
        x.batch(0, 9, 0, -1);
        x.batch(0, 12, 4, -1);
        x.minutes(1);
        is("one kept, one broken", x.count(2) * 10 + x.count(3), 11);
        is("12 in four minutes", x.without(30), 0);
        x.net(0);
        x.minutes(1);
        x.net(100);
        is("12 in three", x.without(3), 4);
        is("not within two", x.without(2), 0);
    }

    // ---- OTHER

    /** "0 OUTSIDE": how much comes through half walls is what the machine's gauge shows. */
    private static void otherOutside() {
        DUE.part("other outside");
        // OUTSIDE, LIMIT, v, whether the work breaks more
        int[][] rows = {{100, 50, 0, 0}, {100, 50, 1, 0}, {100, 50, 2, 1}, {100, 49, -2, -1}, {100, 49, -1, -1},
            {100, 50, 100000, 1}, {100, 249, 100000, 1}, {100, 250, 100000, 0}, {100, 49, -100000, -1},
            {499, 249, 1, 1}, {500, 250, 1, 0}, {500, 250, 100000, 0}, {0, 1, -1, 0}};
        for (int[] row : rows) {
            HotHall x = new HotHall();
            x.room(row[0], 500, 0);
            x.late(0);
            x.machine(0, 0, 0, row[1], 0);
            x.steady(0, 1, 1, 3, 0);
            is("OUTSIDE " + row[0] + ", " + row[2] + " more", x.other(0, row[2], 2, 0), row[3]);
        }
    }

    /** "1 THE NET": 0 .. 100000; what THE STORE takes shows how much is left. */
    private static void otherNet() {
        DUE.part("other net");
        int[][] rows = {{500, 1, 10}, {500, -1, -10}, {500, -500, -5000}, {500, -501, -5000}, {500, -100000, -5000},
            {500, 9500, 95000}, {500, 100000, 95000}, {0, -1, 0}, {0, 1, 10}, {0, 100000, 100000}, {100000, 1, 0}};
        for (int[] row : rows) {
            HotHall x = Halls.still();
            x.store(100000, 10000, 1000);
            x.net(row[0]);
            is("NET " + row[0] + ", " + row[1] + " more", x.other(1, row[1], 1, 1), row[2]);
            is("two minutes", x.other(1, row[1], 2, 1), 2 * row[2]);
        }
        HotHall x = Halls.still();
        x.machine(0, 0, 500, 5000, 0);
        x.batch(0, 9, 9, 0);
        x.store(100000, 10000, 1000);
        x.net(500);
        is("nothing is drawn, 500 are stored; or 1500 are drawn, 9999 are stored", x.other(1, 10999, 1, 1), 109990);
        is("no more than RATE", x.other(1, 100000, 1, 1), 110000);
    }

    /** "2 AIR": 0 .. 200; 1000 beside a machine's cell sends it 200 at most. */
    private static void otherAir() {
        DUE.part("other air");
        // AIR, LIMIT, v, whether the work breaks more
        int[][] rows = {{100, 100, 0, 0}, {100, 100, 1, 1}, {100, 99, -1, -1}, {100, 199, 100, 1}, {100, 199, 99, 0},
            {100, 199, 100000, 1}, {100, 200, 100000, 0}, {200, 200, 1, 0}, {0, 1, -1, 0}, {1, 1, -100000, 0},
            {100, 1, -100000, -1}, {100, 1, -99, -1}, {100, 1, -98, 0}};
        for (int[] row : rows) {
            HotHall x = new HotHall();
            x.room(0, 0, row[0]);
            x.late(0);
            x.heat(3, 1000);
            x.machine(2, 0, 0, row[1], 0);
            x.steady(0, 1, 1, 3, 0);
            is("AIR " + row[0] + ", " + row[2] + " more", x.other(2, row[2], 2, 0), row[3]);
        }
    }

    /** "3 each AIM": 0 .. 5000. */
    private static void otherAim() {
        DUE.part("other aim");
        // AIM, LIMIT, v, whether the work breaks more
        int[][] rows = {{200, 200, 0, 0}, {200, 200, 1, 1}, {200, 199, -1, -1}, {200, 1, -199, -1}, {200, 1, -198, 0},
            {200, 1, -100000, -1}, {0, 1, -1, 0}, {0, 1, 2, 1}, {200, 4999, 4800, 1}, {200, 4999, 4799, 0},
            {200, 4999, 100000, 1}, {200, 5000, 100000, 0}, {5000, 5000, 1, 0}, {5000, 4999, -1, -1}};
        for (int[] row : rows) {
            for (int c = 0; c < 12; c++) {
                HotHall x = Halls.still();
                x.late(0);
                x.heat(c, 6000);
                x.cooler(c, 10000, row[0]);
                x.machine(c, 0, 0, row[1], 0);
                x.steady(0, 1, 1, 3, 0);
                is("AIM " + row[0] + ", " + row[2] + " more, cell " + c, x.other(3, row[2], 2, 0), row[3]);
            }
        }
    }

    /** What comes through walls each minute is taken down to the AIM again. */
    private static void otherAimWhereHeatComes() {
        DUE.part("other aim where heat comes");
        HotHall x = new HotHall();
        x.room(500, 100, 0);
        x.late(0);
        x.cooler(6, 10000, 200);
        x.heat(6, 200);
        x.machine(6, 0, 0, 199, 0);
        x.steady(0, 1, 3, 3, 0);
        is("1 less", x.other(3, -1, 4, 0), -1);
        x = new HotHall();
        x.room(500, 100, 0);
        x.late(0);
        x.cooler(6, 10000, 200);
        x.heat(6, 200);
        x.machine(6, 0, 0, 200, 0);
        x.steady(0, 1, 3, 3, 0);
        is("1 more", x.other(3, 1, 4, 0), 1);
        is("none more", x.other(3, 0, 4, 0), 0);
    }

    /** "4 THE STORE's RATE": 0 .. 10000. */
    private static void otherRate() {
        DUE.part("other rate");
        int[][] rows = {{500, 1, 10}, {500, -1, -10}, {500, -500, -5000}, {500, -501, -5000}, {500, -100000, -5000},
            {500, 9500, 95000}, {500, 9501, 95000}, {500, 100000, 95000}, {0, -1, 0}, {0, 1, 10}, {10000, 1, 0}};
        for (int[] row : rows) {
            HotHall x = Halls.still();
            x.store(100000, row[0], 1000);
            is("RATE " + row[0] + ", " + row[1] + " more", x.other(4, row[1], 1, 1), row[2]);
        }
        HotHall x = Halls.still();
        x.store(700, 500, 1000);
        is("ROOM is as it was", x.other(4, 9000, 1, 1), 2000);
    }

    /** "5 a MACHINE more like MACHINE 0, but in the CELL of that number": its heat, power, limit and feed. */
    private static void otherMachine() {
        DUE.part("other machine");
        for (int c = 0; c < 12; c++) {
            HotHall x = Halls.still();
            x.late(0);
            x.machine(3, 40, 10, 100, 2);
            x.machine(7, 0, 0, 5000, 3);
            x.feed(2, 60);
            for (int i = 0; i < 12; i++) {
                x.heat(i, i == c ? 100 : 101);
            }
            x.steady(0, 0, 0, 3, 0);
            x.steady(0, 0, 0, 3, 1);
            x.steady(0, 0, 0, 3, -1);
            // machine 0 is slow but for cell 3; the new one is not, in cell c
            is("one less breaks, cell " + c, x.other(5, c, 1, 0), -1);
            is("30 more are drawn", x.other(5, c, 1, 1), 300);
            x.heat(c, 101);
            is("above its LIMIT", x.other(5, c, 1, 0), 0);
            is("10 more are drawn", x.other(5, c, 1, 1), 100);
            x.heat(c, 100);
            x.feed(2, c == 3 ? 59 : 39);
            is("its FEED can't carry it", x.other(5, c, 1, 0), 0);
            x.feed(2, c == 3 ? 60 : 40);
            is("its FEED carries it", x.other(5, c, 1, 0), -1);
        }
        HotHall x = Halls.still();
        x.late(0);
        x.machine(3, 40, 10, 119, 2);
        x.steady(0, 0, 1, 3, -1);
        x.steady(0, 0, 1, 3, -1);
        is("makes 120: slow in its second minute, as machine 0", x.other(5, 4, 2, 0), 0);
        is("30 and 10", x.other(5, 4, 2, 1), 400);
        is("in machine 0's cell", x.other(5, 3, 2, 1), 400);
        x = Halls.still();
        x.late(0);
        x.machine(3, 40, 10, 120, 2);
        x.steady(0, 0, 1, 3, -1);
        x.steady(0, 0, 1, 3, -1);
        is("120 is not above 120", x.other(5, 4, 2, 1), 600);
        is("one less breaks", x.other(5, 4, 2, 0), -1);
    }

    /** "NO: no MACHINE 0, or 10 are there"; the new one is as good as new. */
    private static void otherMachinesThere() {
        DUE.part("machines there");
        HotHall x = Halls.still();
        is("no machine 0", x.other(5, 0, 1, 0), Halls.NO_LONG);
        is("wrong comes first", x.other(5, 0, 31, 0), Halls.BAD_LONG);
        for (int m = 0; m < 9; m++) {
            x.machine(m, 0, 0, 5000, 0);
            is(m + 1 + " are there", x.other(5, 11, 1, 0), 0);
        }
        for (int w = 0; w < 10; w++) {
            x.steady(0, 0, 0, 1, -1);
        }
        is("the tenth: one less breaks", x.other(5, 11, 1, 0), -1);
        x.machine(9, 0, 0, 5000, 0);
        is("ten are there", x.other(5, 11, 1, 0), Halls.NO_LONG);
        is("of another thing they may be", x.other(4, 11, 1, 0), 0);
        x = Halls.row(1);
        x.feed(0, 29);
        x.batch(0, 99, 99, -1);
        x.minutes(1);
        is("machine 0 is tripped", x.of(0, 2), 2);
        x.feed(0, 30);
        is("the new one is not", x.other(5, 1, 1, 1), 300);
        x = Halls.row(1);
        x.batch(0, 99, 99, -1);
        x.odds(1, 0, Halls.lotFor(0));
        x.minutes(1);
        x.odds(0, 0, 0);
        is("machine 0 failed", x.of(0, 3), 1);
        is("the new one has not", x.other(5, 1, 1, 1), 300);
    }

    /** "BAD: .. v -100000 .. 100000 (of a MACHINE: no CELL, too)". */
    private static void otherEndsOfV() {
        DUE.part("v");
        HotHall x = Halls.row(1);
        for (int what = 0; what < 5; what++) {
            is("least", x.other(what, -100000, 1, 0), 0);
            is("most", x.other(what, 100000, 1, 0), 0);
            is("too little", x.other(what, -100001, 1, 0), Halls.BAD_LONG);
            is("too much", x.other(what, 100001, 1, 0), Halls.BAD_LONG);
            is("no cell, but no machine", x.other(what, 12, 1, 0), 0);
            is("no cell, but no machine", x.other(what, -1, 1, 0), 0);
        }
        is("cell 0", x.other(5, 0, 1, 0), 0);
        is("cell 11", x.other(5, 11, 1, 0), 0);
        is("no cell", x.other(5, 12, 1, 0), Halls.BAD_LONG);
        is("no cell", x.other(5, -1, 1, 0), Halls.BAD_LONG);
        is("no cell", x.other(5, 100000, 1, 0), Halls.BAD_LONG);
    }

    /** "how many more WORKS BREAK within n minutes (less: below 0), what more COIN goes". */
    private static void otherMoreAndLess() {
        DUE.part("more and less");
        HotHall x = Halls.row(10);
        for (int w = 0; w < 16; w++) {
            x.steady(0, 0, 0, 1, w < 10 ? w : w - 10);
        }
        is("10 kept, 6 broken; without a net all break", x.other(1, -100000, 1, 0), 10);
        is("100 less is drawn", x.other(1, -100000, 1, 1), -1000);
        x.net(0);
        is("10 less", x.other(1, 100, 1, 0), -10);
        is("9 less", x.other(1, 99, 1, 0), -9);
        is("100 more is drawn", x.other(1, 100000, 1, 1), 1000);
        is("what broke ahead doesn't count", x.minutes(1), 16);
        is("what broke ahead doesn't count", x.other(1, 100000, 30, 0), 0);
    }

    /** "from now on": not from the beginning; of what is so now. */
    private static void otherFromNowOn() {
        DUE.part("from now on");
        HotHall x = Halls.row(1);
        x.batch(0, 9, 3, -1);
        x.net(0);
        x.minutes(2);
        is("two minutes are gone", x.other(1, 100, 2, 0), 0);
        is("two minutes are paid", x.other(1, 100, 9, 1), 600);
        is("the coin of the past doesn't count", x.other(0, 0, 9, 1), 0);
    }

    // ---- ODDS FITTED

    /** "NONE: nothing is told". */
    private static void fittedNothing() {
        DUE.part("nothing is told");
        HotHall x = Halls.row(1);
        is("new", x.fitted(), HotHall.NONE);
        x.minutes(60);
        is("nothing ran", x.fitted(), HotHall.NONE);
        x.batch(0, 9, 999, -1);
        Halls.put(x, "0");
        x.minutes(1);
        is("stopped by rules", x.fitted(), HotHall.NONE);
        x.erase();
        x.net(0);
        x.minutes(1);
        is("shed", x.fitted(), HotHall.NONE);
        x.net(100);
        x.feed(0, 0);
        x.minutes(1);
        is("tripped", x.fitted(), HotHall.NONE);
        x.feed(0, 100);
        x.minutes(2);
        is("tripped yet", x.fitted(), HotHall.NONE);
        is("none", x.count(6), 0);
        x.minutes(1);
        is("one stood", x.fitted(), 100);
        is("one", x.count(6), 1);
    }

    /** "each MACHINE and minute it ran, the first 60 of these": by numbers within a minute. */
    private static void fittedFirstSixty() {
        DUE.part("first 60");
        for (int ahead = 58; ahead <= 60; ahead++) {
            HotHall x = Halls.row(1);
            x.batch(0, 900, 999, 0);
            x.minutes(ahead);
            is("told", x.count(6), ahead);
            x.odds(1, 0, Halls.lotFor(0));
            x.minutes(1);
            is("failed", x.of(0, 3), 1);
            is("60 at most", x.count(6), Math.min(60, ahead + 1));
            // with one of 59 or 60 failed at 0 the greatest of p (1000 - p)^58 or 59 for p up to 20 is at 17
            is("fitted, " + ahead, x.fitted(), ahead == 60 ? 100 : 1700);
        }
        HotHall x = Halls.row(2);
        x.batch(0, 900, 999, 0);
        x.minutes(59);
        x.batch(0, 900, 999, 1);
        x.heat(1, 100000);
        x.odds(0, 1, 5);
        x.minutes(1);
        is("1 failed", x.of(1, 3), 1);
        is("0 was the 60th", x.fitted(), 100);
        x = Halls.row(2);
        x.batch(0, 900, 999, 0);
        x.minutes(59);
        x.batch(0, 900, 999, 1);
        x.heat(0, 100000);
        x.odds(0, 1, 5);
        x.minutes(1);
        is("0 failed", x.of(0, 3), 1);
        // told at 9 (more as 9): A + 9 B is 100 or 101 at most; 19 and 9 times 9 is 100
        is("0 was the 60th", x.fitted(), likeliest(59, 0, 1, 9));
    }

    /** "told by its CELL's HEAT by 100 at (g), cut (0 .. 9; less as 0, more as 9)": one failed at it, 59 stood at 0. */
    private static void fittedHundreds() {
        DUE.part("hundreds");
        int[][] rows = {{0, 0}, {99, 0}, {100, 1}, {199, 1}, {200, 2}, {599, 5}, {600, 6}, {799, 7}, {800, 8}, {899, 8},
            {900, 9}, {999, 9}, {1000, 9}, {100000, 9}};
        for (int[] row : rows) {
            HotHall x = Halls.row(1);
            x.batch(0, 900, 999, 0);
            x.minutes(9);
            x.heat(0, row[0]);
            x.odds(100, 0, Halls.lotFor(0));
            x.minutes(1);
            is("failed", x.of(0, 3), 1);
            is("9 stood at 0, one failed at " + row[0], x.fitted(), likeliest(9, 0, 1, row[1]));
        }
        HotHall x = new HotHall();
        x.room(0, 500, 200);
        x.machine(5, 0, 0, 5000, 0);
        x.batch(0, 99, 99, 0);
        x.heat(5, 1000);
        x.minutes(1);
        is("-300", x.cell(5, 0), -300);
        is("stood below 0: as at 0", x.fitted(), 100);
        x = Halls.still();
        x.machine(0, 100, 0, 5000, 0);
        x.batch(0, 99, 99, 0);
        x.odds(4, 0, Halls.lotFor(3));
        x.minutes(1);
        is("told at (g), where 300 are made", x.fitted(), 2009);
    }

    /** "of A 1 .. 20, B 0 .. 9". */
    private static void fittedEnds() {
        DUE.part("A and B");
        HotHall x = Halls.row(1);
        x.batch(0, 900, 999, 0);
        x.heat(0, 900);
        x.minutes(1);
        is("stood: the least of both", x.fitted(), 100);
        x.odds(1, 0, Halls.lotFor(0));
        x.minutes(1);
        is("failed", x.of(0, 3), 1);
        is("one stood, one failed: the greatest of both", x.fitted(), 2009);
        x = Halls.row(1);
        x.batch(0, 900, 999, 0);
        x.odds(1, 0, Halls.lotFor(0));
        x.minutes(1);
        is("failed at 0: the greatest A, the first B", x.fitted(), 2000);
    }

    /** "of like ones the first by A, then B": 20 of which one failed at k wants A + B k = 50. */
    private static void fittedLikest() {
        DUE.part("of like ones");
        int[][] rows = {{0, 2000}, {1, 2009}, {2, 2009}, {3, 2009}, {4, 1409}, {5, 509}, {6, 208}, {7, 107}, {8, 206},
            {9, 505}};
        for (int[] row : rows) {
            is("at " + row[0], fittedOneOf(19, row[0]), row[1]);
        }
        // 34 966^28 is 1.00002 times 35 965^28: A + 2 B is 34
        is("34 rather than 35", fittedOneOf(28, 2), 1609);
        // 63 937^15 is a little above 62 938^15: A + 5 B is 63
        is("63 rather than 62", fittedOneOf(15, 5), 1809);
    }

    /** "the greatest product": of many that stood at one heat and many that failed at another, by whole numbers. */
    private static void fittedByProducts() {
        DUE.part("greatest product");
        int[] heats = {0, 1, 2, 3, 5, 9};
        for (int stoodAt : heats) {
            for (int failedAt : heats) {
                for (int failed = 0; failed <= 9; failed++) {
                    for (int stood = failed == 0 ? 1 : 0; stood <= 51; stood += stood < 6 ? 1 : 5) {
                        HotHall x = told(stood, stoodAt, failed, failedAt);
                        is("how many are told", x.count(6), stood + failed);
                        is(stood + " stood at " + stoodAt + ", " + failed + " failed at " + failedAt, x.fitted(),
                            likeliest(stood, stoodAt, failed, failedAt));
                    }
                }
            }
        }
    }

    /** Machine 0 stands as long as its work takes; then each of the others fails in its first minute. */
    private static HotHall told(int stood, int stoodAt, int failed, int failedAt) {
        HotHall x = Halls.row(10);
        x.heat(0, 100 * stoodAt);
        if (stood > 0) {
            x.batch(0, 3 * stood, 9999, 0);
            x.minutes(stood);
        }
        for (int m = 1; m <= failed; m++) {
            x.heat(m, 100 * failedAt + 99);
            x.batch(0, 1, 9999, m);
            x.odds(1, 0, Halls.lotFor(0));
            x.minutes(1);
        }
        return x;
    }

    private static int likeliest(int stood, int stoodAt, int failed, int failedAt) {
        BigInteger most = BigInteger.ZERO;
        int likeliest = 0;
        for (int a = 1; a <= 20; a++) {
            for (int b = 0; b <= 9; b++) {
                BigInteger product = BigInteger.valueOf(a + b * failedAt).pow(failed)
                    .multiply(BigInteger.valueOf(1000 - a - b * stoodAt).pow(stood));
                if (product.compareTo(most) > 0) {
                    most = product;
                    likeliest = 100 * a + b;
                }
            }
        }
        return likeliest;
    }

    /** So many stood and then one failed at k. */
    private static int fittedOneOf(int stood, int k) {
        HotHall x = Halls.row(1);
        x.batch(0, 900, 999, 0);
        x.heat(0, 100 * k);
        x.minutes(stood);
        x.odds(1, 0, Halls.lotFor(0));
        x.minutes(1);
        is("failed", x.of(0, 3), 1);
        return x.fitted();
    }

    // ---- DRILLS

    /** "DRILLS 0 .. 3"; "NONE: none was told". */
    private static void drillsTold() {
        DUE.part("drills");
        for (int d = 0; d < 4; d++) {
            HotHall x = Halls.row(1);
            is("none", x.worst(0), HotHall.NONE);
            is("none", x.worst(1), HotHall.NONE);
            is("told", x.drill(d, 0, 0, 1), 1);
            is("the only one", x.worst(0), d);
            is("none breaks", x.worst(1), 0);
            x.steady(0, 0, 0, 1, -1);
            is("one breaks", x.worst(1), 1);
            x.drill(d, 0, 100000, 1);
            is("told anew", x.worst(1), 0);
            is("the only one", x.worst(0), d);
        }
    }

    /** "for n minutes from now .. within these and 5 more minutes". */
    private static void worstMinutes() {
        DUE.part("minutes of a drill");
        for (int n : new int[] {1, 2, 29, 30}) {
            HotHall x = Halls.still();
            x.minutes(3);
            x.drill(1, 0, 0, n);
            x.batch(0, 1, 3 + n + 4, -1);
            x.batch(0, 1, 3 + n + 5, -1);
            is("one breaks in the last of 5 more than " + n, x.worst(1), 1);
        }
        for (int n : new int[] {1, 30}) {
            HotHall x = Halls.row(1);
            x.drill(1, 0, 0, n);
            x.steady(0, n - 1, n - 1, 1, -1);
            is("THE NET is other in minute " + n, x.worst(1), 1);
            x = Halls.row(1);
            x.drill(1, 0, 0, n);
            x.steady(0, n, n, 1, -1);
            is("THE NET is as it is behind it", x.worst(1), 0);
            x = new HotHall();
            x.room(0, 500, 0);
            x.late(0);
            x.machine(0, 0, 0, 1, 0);
            x.drill(1, 4, 100000, n);
            x.steady(0, n, n, 3, -1);
            is("OUTSIDE was other in minute " + n, x.worst(1), 1);
            x.drill(1, 3, 100000, n);
            is("OUTSIDE was other in minute " + n, x.worst(1), n == 1 ? 0 : 1);
            // half of it goes each minute behind the drill: 50, 25, 13, 7, 4 or 99, 50, 25, 13, 7
            for (int less = 0; less <= 1; less++) {
                x = new HotHall();
                x.room(0, 500, 0);
                x.late(0);
                x.machine(0, 0, 0, (n == 1 ? 4 : 7) - less, 0);
                x.drill(1, 100, 100000, n);
                x.steady(0, n + 4, n + 4, 3, -1);
                is("OUTSIDE is as it is behind it", x.worst(1), less);
                // from 0 toward 20: 10, 15, 17, 18
                x = new HotHall();
                x.room(20, 500, 0);
                x.late(0);
                x.machine(0, 0, 0, 18 - less, 0);
                x.drill(1, 0, 100000, n);
                x.steady(0, n + 4, n + 4, 3, -1);
                is("OUTSIDE is 20 behind it", x.worst(1), less);
            }
        }
    }

    /** "(as they are now)": at the time that it is asked, not told. */
    private static void worstAsTheyAreNow() {
        DUE.part("as they are now");
        HotHall x = Halls.row(1);
        x.drill(0, 0, 100000, 1);
        x.steady(0, 3, 3, 1, -1);
        is("kept", x.worst(1), 0);
        x.net(9);
        is("breaks by THE NET as it is now", x.worst(1), 1);
        x.net(10);
        is("kept", x.worst(1), 0);
        x.minutes(4);
        is("over", x.worst(1), 0);
        is("THE NET is as it was", x.net(5), 10);
        x.steady(0, 4, 4, 1, -1);
        is("the drill's minute is the first from now", x.worst(1), 0);
        x.steady(0, 5, 5, 1, -1);
        is("the second is not", x.worst(1), 1);
    }

    /** "by which most WORKS BREAK .., of like ones the first". */
    private static void worstFirstOfLike() {
        DUE.part("first of like");
        // how many of three works each drill breaks, by its minutes
        int[][] rows = {{1, 1, 1, 1, 0}, {1, 2, 1, 1, 1}, {1, 2, 2, 1, 1}, {1, 2, 3, 2, 2}, {1, 2, 3, 3, 2}, {3, 3, 3, 3, 0},
            {1, 1, 1, 2, 3}, {2, 1, 1, 2, 0}, {2, 2, 1, 3, 3}};
        for (int[] row : rows) {
            HotHall x = Halls.row(1);
            for (int m = 0; m < 3; m++) {
                x.steady(0, m, m, 1, -1);
            }
            int most = 0;
            for (int d = 0; d < 4; d++) {
                x.drill(d, 0, 0, row[d]);
                most = Math.max(most, row[d]);
            }
            is("the worst", x.worst(0), row[4]);
            is("how many", x.worst(1), most);
        }
    }

    // ---- BILL

    /** "FEES of all its WORKS that are KEPT less CREDITS of those BROKEN": of 16, 16000 either way. */
    private static void billOfAll() {
        DUE.part("bill");
        for (int kept = 0; kept <= 10; kept += 5) {
            HotHall x = Halls.row(kept);
            for (int w = 0; w < 16; w++) {
                x.batch(5, 3, 0, -1);
            }
            x.house(5, 0, 1000, 999);
            is("open", x.bill(5), 0);
            x.minutes(1);
            is(kept + " kept", x.bill(5), 1000 * kept - 999 * (16 - kept));
            is("another house", x.bill(4), 0);
            x.house(5, 0, 0, 0);
            is("by what is told now", x.bill(5), 0);
        }
        HotHall x = Halls.row(1);
        x.steady(3, 1, 2, 1, -1);
        x.house(3, 0, 7, 5);
        is("not yet open", x.bill(3), 0);
        x.minutes(2);
        is("open", x.bill(3), 0);
        x.minutes(1);
        is("kept", x.bill(3), 7);
    }
}
