/** The document's Terms, part 2, but for heat: each sentence that names an edge. Quotations are the document's. */
public final class MinuteEdgesTest {
    private static final int NO_ROOM = 1, BY_RULES = 2, BY_FEED = 3, BY_POWER = 4, BY_FAILING = 5, SLOW = 6;
    private static final int NOT_YET = 0, OPEN = 1, KEPT = 2, BROKEN = 3;
    private static final Due DUE = new Due();

    public static void main(String[] args) {
        housesAtFirst();
        sixteenWorks();
        orderEdges();
        batchDoneEdges();
        batchAmountEnds();
        batchMinuteEdges();
        steadyMinutes();
        steadyMissed();
        steadyWants();
        steadyCause();
        speedBrought();
        speedWithoutRules();
        placedAtOneEach();
        placedByGauge();
        placedPinned();
        placedNotTripped();
        placedNotFailed();
        slowByHeat();
        stoppedByRules();
        feedEdges();
        feedOthers();
        feedThreeMinutes();
        feedAheadOfPower();
        powerEdges();
        powerStoreEdges();
        shedOrder();
        shedOneMinute();
        storeGivesFirst();
        storeGivesLast();
        storeTakes();
        highEnds();
        coinIsLong();
        oddsAtFirst();
        oddsEdges();
        oddsBelowZero();
        oddsAtHeatOfG();
        lotsByNumbers();
        failedOfThree();
        lotsOnlyForRunning();
        failedForGood();
        failedNotDone();
        batchCause();
        causeNone();
        DUE.end();
    }

    private static void is(String call, long got, long want) {
        DUE.is(call, got, want);
    }

    private static void works(HotHall x, int work, int state, int done, int cause) {
        is("state of " + work, x.work(work, 0), state);
        is("done of " + work, x.work(work, 1), done);
        is("cause of " + work, x.work(work, 2), cause);
    }

    // ---- HOUSES, WORKS, THE ORDER

    /** "HOUSES 0 .. 7 have a RANK (0 .. 99; 0 at first ..), a FEE and a CREDIT (0 .. 1000 each; 0)". */
    private static void housesAtFirst() {
        DUE.part("houses at first");
        for (int h = 0; h < 8; h++) {
            HotHall x = Halls.one();
            x.batch(h, 3, 0, -1);
            x.batch(h, 3, 0, -1);
            x.minutes(1);
            is("one kept, one broken", x.count(2) * 10 + x.count(3), 11);
            is("bill of " + h, x.bill(h), 0);
            x.house(h, 0, 1000, 1000);
            is("1000 less 1000", x.bill(h), 0);
            x.house(h, 0, 1000, 0);
            is("1000", x.bill(h), 1000);
            x.house(h, 0, 0, 1000);
            is("-1000", x.bill(h), -1000);
        }
        HotHall x = Halls.one();
        x.house(1, 1, 0, 0);
        x.batch(1, 9, 9, -1);
        x.batch(7, 9, 9, -1);
        x.minutes(1);
        is("7 has RANK 0", x.of(0, 0), 1);
    }

    /** "WORKS 0 .. 15, as they come": of both kinds together. */
    private static void sixteenWorks() {
        DUE.part("16 works");
        HotHall x = Halls.one();
        for (int w = 0; w < 16; w++) {
            is("none yet", x.work(w, 3), HotHall.BAD);
            is("its number", w % 2 == 0 ? x.batch(w / 2, 1, 9, -1) : x.steady(w / 2, 9, 9, 1, -1), w);
            is("how many", x.count(1), w + 1);
        }
        is("a 17th", x.batch(0, 1, 9, -1), HotHall.FULL);
        is("a 17th", x.steady(0, 9, 9, 1, -1), HotHall.FULL);
        for (int w = 0; w < 16; w++) {
            is("its house", x.work(w, 3), w / 2);
        }
        Halls.go(x, 20);
        is("those that are over count, too", x.batch(0, 1, 99, -1), HotHall.FULL);
        is("all are over", x.count(2) + x.count(3), 16);
    }

    /** "THE ORDER: by RANK, then HOUSES, then numbers"; RANK "0 .. 99 ..: the least is first". */
    private static void orderEdges() {
        DUE.part("the order");
        // ranks of houses 0, 1, 6 and 7, whose works are 0 and 4, 1 and 5, 2 and 6, 3 and 7
        int[][] rows = {{0, 0, 0, 0, 0}, {1, 0, 0, 0, 1}, {1, 1, 0, 0, 2}, {1, 1, 1, 0, 3}, {99, 99, 99, 98, 3},
            {99, 99, 98, 98, 2}, {98, 99, 99, 99, 0}, {50, 49, 49, 0, 3}, {99, 99, 99, 99, 0}, {0, 99, 99, 99, 0}};
        for (int[] row : rows) {
            HotHall x = Halls.one();
            int[] houses = {0, 1, 6, 7};
            for (int w = 0; w < 8; w++) {
                x.batch(houses[w % 4], 3, 99, -1);
            }
            for (int i = 0; i < 4; i++) {
                x.house(houses[i], row[i], 0, 0);
            }
            x.minutes(1);
            is("first", x.of(0, 0), row[4]);
            x.minutes(1);
            is("then, of its house, the next number", x.of(0, 0), row[4] + 4);
        }
        HotHall x = Halls.one();
        for (int w = 0; w < 15; w++) {
            x.batch(1, 3, 99, -1);
        }
        x.batch(0, 3, 99, -1);
        x.minutes(1);
        is("the 16th of house 0 is ahead of all of house 1", x.of(0, 0), 15);
        for (int w = 0; w < 15; w++) {
            x.minutes(1);
            is("then by numbers", x.of(0, 0), w);
        }
        x.minutes(1);
        is("then none", x.of(0, 0), HotHall.NONE);
    }

    // ---- BATCHES

    /** "A BATCH is OPEN till it is done": at its sum, not below it. */
    private static void batchDoneEdges() {
        DUE.part("batch done");
        for (int many = 1; many <= 7; many++) {
            HotHall x = Halls.one();
            x.batch(0, many, 99, 0);
            for (int m = 1; m <= 3; m++) {
                x.minutes(1);
                int ran = Math.min(m, (many + 2) / 3);
                boolean done = 3 * m >= many;
                works(x, 0, done ? KEPT : OPEN, 3 * ran, 0);
                is("open", x.now(4), done ? 0 : 1);
                is("kept", x.count(2), done ? 1 : 0);
            }
        }
        HotHall x = Halls.one();
        x.batch(0, 3, 99, 0);
        Halls.put(x, "1");
        x.minutes(2);
        works(x, 0, OPEN, 2, SLOW);
        x.minutes(1);
        works(x, 0, KEPT, 3, SLOW);
        x.minutes(1);
        is("a kept one doesn't run", x.of(0, 0), HotHall.NONE);
        works(x, 0, KEPT, 3, SLOW);
    }

    /** "BATCH (so much, 1 .. 1000": 333 minutes do 999, 334 do 1002. */
    private static void batchAmountEnds() {
        DUE.part("batch amount");
        HotHall x = Halls.row(3);
        x.batch(0, 1, 0, 0);
        x.batch(0, 1000, 332, 1);
        x.batch(0, 1000, 333, 2);
        x.minutes(1);
        works(x, 0, KEPT, 3, 0);
        Halls.go(x, 331);
        works(x, 1, OPEN, 996, 0);
        is("one breaks", x.minutes(1), 1);
        works(x, 1, BROKEN, 999, 0);
        works(x, 2, OPEN, 999, 0);
        is("none breaks", x.minutes(1), 0);
        works(x, 1, BROKEN, 999, 0);
        works(x, 2, KEPT, 1002, 0);
    }

    /** "BROKEN as its minute (it is done in that, too) is over and it was not". */
    private static void batchMinuteEdges() {
        DUE.part("batch minute");
        for (int by = 0; by <= 2; by++) {
            HotHall x = Halls.row(2);
            x.batch(0, 3 * by + 3, by, 0);
            x.batch(0, 3 * by + 4, by, 1);
            for (int m = 0; m < by; m++) {
                is("none breaks ahead of it", x.minutes(1), 0);
                works(x, 0, OPEN, 3 * m + 3, 0);
                works(x, 1, OPEN, 3 * m + 3, 0);
            }
            is("one breaks", x.minutes(1), 1);
            works(x, 0, KEPT, 3 * by + 3, 0);
            works(x, 1, BROKEN, 3 * by + 3, 0);
            is("kept", x.count(2), 1);
            is("broken", x.count(3), 1);
            is("it breaks once", x.minutes(5), 0);
            works(x, 0, KEPT, 3 * by + 3, 0);
            works(x, 1, BROKEN, 3 * by + 3, 0);
            is("a broken one doesn't run", x.work(1, 4), HotHall.NONE);
        }
        HotHall x = Halls.still();
        x.minutes(7);
        is("by now", x.batch(0, 1, 7, -1), 0);
        is("open now", x.work(0, 0), OPEN);
        is("breaks", x.minutes(1), 1);
        works(x, 0, BROKEN, 0, NO_ROOM);
    }

    // ---- STEADY ONES

    /** "A STEADY one is OPEN in its minutes .. behind them KEPT, if it was done in all". */
    private static void steadyMinutes() {
        DUE.part("steady minutes");
        int[][] rows = {{0, 0}, {0, 3}, {1, 1}, {2, 4}, {5, 5}};
        for (int[] row : rows) {
            HotHall x = Halls.one();
            x.steady(0, row[0], row[1], 3, -1);
            for (int m = 0; m < 8; m++) {
                int state = m < row[0] ? NOT_YET : m <= row[1] ? OPEN : KEPT;
                works(x, 0, state, Math.max(0, Math.min(m, row[1] + 1) - row[0]), 0);
                is("open as minute " + m + " comes", x.now(4), state == OPEN ? 1 : 0);
                is("none breaks", x.minutes(1), 0);
                is("runs in its minutes", x.of(0, 0), state == OPEN ? 0 : HotHall.NONE);
            }
        }
    }

    /** "in each it is done or not; behind them KEPT, if it was done in all, else BROKEN". */
    private static void steadyMissed() {
        DUE.part("steady missed");
        for (int missed = -1; missed < 4; missed++) {
            HotHall x = Halls.row(1);
            x.steady(0, 0, 3, 3, -1);
            for (int m = 0; m < 4; m++) {
                is("open in minute " + m, x.work(0, 0), OPEN);
                x.net(m == missed ? 29 : 30);
                is("breaks", x.minutes(1), m == 3 && missed >= 0 ? 1 : 0);
            }
            works(x, 0, missed < 0 ? KEPT : BROKEN, missed < 0 ? 4 : 3, missed < 0 ? 0 : BY_POWER);
            is("it breaks once", x.minutes(3), 0);
        }
    }

    /** "so much, 1 .. 3"; "STEADY ones: no more than it wants"; "done, if its speed is what it wants (else .. slow)". */
    private static void steadyWants() {
        DUE.part("steady wants");
        for (int wants = 1; wants <= 3; wants++) {
            for (int speed = 0; speed <= 3; speed++) {
                HotHall x = Halls.row(1);
                x.steady(0, 0, 5, wants, -1);
                Halls.put(x, "3-" + (3 - speed));
                x.minutes(1);
                is("speed", x.of(0, 1), Math.min(wants, speed));
                is("draws", x.now(3), 10 * Math.min(wants, speed));
                works(x, 0, OPEN, speed >= wants ? 1 : 0, speed >= wants ? 0 : speed == 0 ? BY_RULES : SLOW);
            }
        }
    }

    /** "its CAUSE that of the first it was not". */
    private static void steadyCause() {
        DUE.part("steady cause");
        HotHall x = Halls.row(1);
        x.steady(0, 0, 5, 2, -1);
        x.minutes(1);
        works(x, 0, OPEN, 1, 0);
        x.net(19);
        x.minutes(1);
        works(x, 0, OPEN, 1, BY_POWER);
        x.net(100);
        Halls.put(x, "1");
        x.minutes(1);
        works(x, 0, OPEN, 1, BY_POWER);
        Halls.put(x, "0");
        x.minutes(1);
        works(x, 0, OPEN, 1, BY_POWER);
        x.erase();
        is("breaks as its minutes are over", x.minutes(2), 1);
        works(x, 0, BROKEN, 3, BY_POWER);
    }

    // ---- (a)

    /** "RULES tell a SPEED 0 .. 3 (brought to that": as longs. */
    private static void speedBrought() {
        DUE.part("speed brought");
        String[] texts = {"0", "1", "2", "3", "4", "999999", "-1", "-999999", "0-1", "3+1", "2-3",
            "65536*65536", "65536*65536+2", "2-65536*65536", "-65536*65536", "65536*65536*65536*32768",
            "65536*65536*65536*32768-1", "-(65536*65536*65536*32768)", "65536*65536*65536*65536",
            "65536*65536*65536*65536+2", "1-65536*65536*65536*32768"};
        int[] due = {0, 1, 2, 3, 3, 3, 0, 0, 0, 3, 0, 3, 3, 0, 0, 0, 3, 0, 0, 2, 0};
        for (int i = 0; i < texts.length; i++) {
            HotHall x = Halls.one();
            x.batch(0, 99, 99, 0);
            Halls.put(x, texts[i]);
            is("fault of " + texts[i], x.fault(), HotHall.NONE);
            x.minutes(1);
            is("speed by " + texts[i], x.now(1), due[i]);
            is("speed of the machine", x.of(0, 1), due[i]);
        }
    }

    /** "3 without RULES or with a FAULT". */
    private static void speedWithoutRules() {
        DUE.part("speed without rules");
        String[] texts = {"", " ", "1-", "1 1", "0)", "(0", "0000001", "(((((((((0)))))))))", "x"};
        for (String text : texts) {
            HotHall x = Halls.one();
            x.batch(0, 99, 99, 0);
            Halls.put(x, text);
            x.minutes(1);
            is("speed by '" + text + "'", x.now(1), 3);
            is("speed of the machine", x.of(0, 1), 3);
        }
        HotHall x = Halls.one();
        Halls.put(x, "1");
        x.minutes(1);
        is("by rules", x.now(1), 1);
        x.write('-');
        x.minutes(1);
        is("with a fault", x.now(1), 3);
        x.write('1');
        x.minutes(1);
        is("mended", x.now(1), 0);
        x.erase();
        x.minutes(1);
        is("without rules", x.now(1), 3);
    }

    // ---- (b)

    /** "to a MACHINE that has none ..; none: CAUSE 1 no room". */
    private static void placedAtOneEach() {
        DUE.part("one each");
        for (int machines = 0; machines <= 3; machines++) {
            HotHall x = Halls.row(machines);
            for (int w = 0; w < 3; w++) {
                x.batch(0, 99, 99, -1);
            }
            x.minutes(1);
            for (int w = 0; w < 3; w++) {
                is("machine of " + w, x.work(w, 4), w < machines ? w : HotHall.NONE);
                works(x, w, OPEN, w < machines ? 3 : 0, w < machines ? 0 : NO_ROOM);
            }
            for (int m = 0; m < machines; m++) {
                is("work of " + m, x.of(m, 0), m);
            }
        }
    }

    /** "of these that in the CELL of which the GAUGE shows least, of like ones the least number". */
    private static void placedByGauge() {
        DUE.part("by gauge");
        int[][] rows = {{5, 5, 5, 0}, {5, 4, 5, 1}, {5, 4, 4, 1}, {5, 5, 4, 2}, {4, 5, 4, 0}, {0, 0, 1, 0}, {1, 0, 0, 1}};
        for (int[] row : rows) {
            HotHall x = Halls.row(3);
            x.late(0);
            for (int c = 0; c < 3; c++) {
                x.heat(c, row[c]);
            }
            x.batch(0, 99, 99, -1);
            x.minutes(1);
            is("placed at", x.work(0, 4), row[3]);
        }
        HotHall x = Halls.row(2);
        x.heat(0, 5);
        x.batch(0, 99, 99, -1);
        x.minutes(1);
        is("the gauge shows 0 in both", x.work(0, 4), 0);
        x.heat(0, 0);
        x.minutes(1);
        is("the gauge shows 5, not 0", x.work(0, 4), 1);
        x.minutes(1);
        is("0 in both", x.work(0, 4), 0);
        x = new HotHall();
        x.room(0, 500, 200);
        x.machine(0, 0, 0, 5000, 0);
        x.machine(5, 0, 0, 5000, 0);
        x.heat(5, 1000);
        x.late(0);
        x.minutes(1);
        x.batch(0, 99, 99, -1);
        x.minutes(1);
        is("-300 is less than 0", x.work(0, 4), 1);
    }

    /** "its own if PINNED". */
    private static void placedPinned() {
        DUE.part("pinned");
        HotHall x = Halls.row(3);
        x.late(0);
        x.heat(2, 900);
        x.batch(0, 99, 99, 2);
        x.minutes(1);
        is("its own, though others are cooler", x.work(0, 4), 2);
        x.batch(0, 99, 99, 2);
        x.minutes(1);
        works(x, 1, OPEN, 0, NO_ROOM);
        is("another is free, but not its own", x.of(0, 0), HotHall.NONE);
        x = Halls.row(2);
        x.batch(0, 99, 99, -1);
        x.batch(0, 99, 99, 0);
        x.minutes(1);
        is("one that isn't pinned takes it, if it is ahead", x.work(0, 4), 0);
        works(x, 1, OPEN, 0, NO_ROOM);
        x.steady(1, 1, 9, 1, 1);
        x.house(0, 1, 0, 0);
        x.minutes(1);
        is("a steady one at its own", x.work(2, 4), 1);
    }

    /** "is not TRIPPED": for three minutes, the first of which is that in which it trips. */
    private static void placedNotTripped() {
        DUE.part("not tripped");
        HotHall x = Halls.row(2);
        x.feed(0, 30);
        x.batch(0, 99, 99, -1);
        x.batch(0, 99, 99, -1);
        x.minutes(1);
        works(x, 1, OPEN, 0, BY_FEED);
        for (int m = 1; m <= 2; m++) {
            x.minutes(1);
            works(x, 1, OPEN, 0, NO_ROOM);
            is("has none", x.of(1, 0), HotHall.NONE);
        }
        x.feed(0, 60);
        x.minutes(1);
        is("has one again", x.of(1, 0), 1);
        works(x, 1, OPEN, 3, NO_ROOM);
    }

    /** "nor FAILED". */
    private static void placedNotFailed() {
        DUE.part("not failed");
        HotHall x = Halls.row(2);
        x.batch(0, 99, 99, -1);
        x.odds(1, 0, Halls.lotFor(0));
        x.minutes(1);
        is("0 failed", x.of(0, 3), 1);
        x.odds(0, 0, 0);
        x.minutes(1);
        is("it goes to 1", x.work(0, 4), 1);
        x.batch(0, 99, 99, 0);
        x.minutes(1);
        works(x, 1, OPEN, 0, NO_ROOM);
    }

    // ---- (c)

    /** "no more than 1 if the GAUGE of its CELL is above its LIMIT": 1 at most, not 1 at least. */
    private static void slowByHeat() {
        DUE.part("slow by heat");
        for (int speed = 0; speed <= 3; speed++) {
            HotHall x = Halls.still();
            x.late(0);
            x.machine(0, 0, 10, 50, 0);
            x.heat(0, 51);
            x.batch(0, 99, 99, -1);
            Halls.put(x, "" + (char) ('0' + speed));
            x.minutes(1);
            is("speed", x.of(0, 1), Math.min(1, speed));
            is("THE SPEED is as it was", x.now(1), speed);
            works(x, 0, OPEN, Math.min(1, speed), speed == 0 ? BY_RULES : SLOW);
        }
    }

    /** "speed 0: CAUSE 2, if by the RULES": nothing runs, so nothing is made, drawn, lost. */
    private static void stoppedByRules() {
        DUE.part("stopped by rules");
        HotHall x = Halls.still();
        x.machine(0, 50, 50, 5000, 0);
        x.odds(100, 100, 77);
        x.batch(0, 99, 99, -1);
        x.steady(0, 0, 9, 1, -1);
        x.machine(1, 50, 50, 5000, 0);
        Halls.put(x, "0");
        x.feed(0, 0);
        x.net(0);
        x.minutes(1);
        works(x, 0, OPEN, 0, BY_RULES);
        works(x, 1, OPEN, 0, BY_RULES);
        is("nothing is drawn", x.now(3), 0);
        is("nothing trips", x.of(0, 2) + x.of(1, 2), 0);
        is("nothing is made", x.now(6), 0);
        is("nothing is told", x.count(6), 0);
        is("no lot", Halls.lot(x), 77);
    }

    // ---- (d)

    /** "as long as the MACHINES of one draw more than it carries": 90, 60 and 30 are not more than 90, 60 and 30. */
    private static void feedEdges() {
        DUE.part("feed");
        int[][] rows = {{91, 3}, {90, 3}, {89, 2}, {61, 2}, {60, 2}, {59, 1}, {31, 1}, {30, 1}, {29, 0}, {1, 0}, {0, 0}};
        for (int[] row : rows) {
            HotHall x = Halls.row(3);
            x.feed(0, row[0]);
            for (int w = 0; w < 3; w++) {
                x.batch(0, 99, 99, 2 - w);
            }
            x.minutes(1);
            is("drawn at " + row[0], x.now(3), 30 * row[1]);
            for (int m = 0; m < 3; m++) {
                boolean runs = m < row[1];
                is("speed of " + m, x.of(m, 1), runs ? 3 : 0);
                is("trip of " + m, x.of(m, 2), runs ? 0 : 2);
                works(x, 2 - m, OPEN, runs ? 3 : 0, runs ? 0 : BY_FEED);
            }
        }
    }

    /** "the one with the greatest number of those that draw": no other feed's, none without a work or a power. */
    private static void feedOthers() {
        DUE.part("feed, those that draw");
        HotHall x = Halls.row(2);
        x.machine(2, 0, 10, 5000, 1);
        x.machine(3, 0, 0, 5000, 0);
        x.machine(4, 0, 10, 5000, 0);
        x.feed(0, 59);
        x.feed(1, 30);
        for (int m = 0; m < 4; m++) {
            x.batch(0, 99, 99, m);
        }
        x.minutes(1);
        is("draws", x.of(0, 2), 0);
        is("draws, the greatest number", x.of(1, 2), 2);
        is("another feed", x.of(2, 2), 0);
        is("has no power", x.of(3, 2), 0);
        is("but runs", x.of(3, 1), 3);
        is("has no work", x.of(4, 2), 0);
        x = Halls.row(2);
        x.feed(0, 30);
        x.batch(0, 99, 99, 1);
        x.steady(0, 0, 9, 1, 0);
        x.minutes(1);
        is("the greatest number, though it comes first by the order", x.of(1, 2), 2);
        is("the other runs", x.of(0, 1), 1);
    }

    /** "TRIPS for 3 minutes (this one is the first)". */
    private static void feedThreeMinutes() {
        DUE.part("three minutes");
        HotHall x = Halls.row(1);
        x.feed(0, 29);
        x.batch(0, 99, 99, 0);
        int[] yet = {2, 1, 0, 2, 1, 0, 2};
        for (int m = 0; m < yet.length; m++) {
            x.minutes(1);
            is("yet, minute " + m, x.of(0, 2), yet[m]);
            is("its work", x.of(0, 0), yet[m] == 2 ? 0 : HotHall.NONE);
            is("speed", x.of(0, 1), 0);
            works(x, 0, OPEN, 0, yet[m] == 2 ? BY_FEED : NO_ROOM);
        }
        x.feed(0, 30);
        x.minutes(2);
        is("not yet", x.work(0, 1), 0);
        x.minutes(1);
        is("then it runs", x.work(0, 1), 3);
        is("not tripped", x.of(0, 2), 0);
    }

    /** (d) is ahead of (e): what tripped doesn't draw there, nor make, nor lose. */
    private static void feedAheadOfPower() {
        DUE.part("(d), then (e)");
        HotHall x = Halls.still();
        x.machine(0, 5, 10, 5000, 0);
        x.machine(1, 5, 10, 5000, 1);
        x.feed(1, 29);
        x.net(30);
        x.odds(0, 0, 77);
        x.batch(0, 99, 99, 0);
        x.batch(0, 99, 99, 1);
        x.house(1, 1, 0, 0);
        x.minutes(1);
        works(x, 0, OPEN, 3, 0);
        works(x, 1, OPEN, 0, BY_FEED);
        is("drawn", x.now(3), 30);
        is("made", x.now(6), 15);
        is("one was told", x.count(6), 1);
        is("one lot", Halls.lot(x), Halls.nextLot(77));
    }

    // ---- (e)

    /** "as long as all together draw more than THE NET": 90, 60 and 30 are not more than 90, 60 and 30. */
    private static void powerEdges() {
        DUE.part("power");
        int[][] rows = {{91, 3}, {90, 3}, {89, 2}, {60, 2}, {59, 1}, {30, 1}, {29, 0}, {0, 0}};
        for (int[] row : rows) {
            HotHall x = Halls.row(3);
            x.net(row[0]);
            for (int w = 0; w < 3; w++) {
                x.batch(0, 99, 99, 2 - w);
            }
            x.minutes(1);
            is("drawn at " + row[0], x.now(3), 30 * row[1]);
            for (int w = 0; w < 3; w++) {
                works(x, w, OPEN, w < row[1] ? 3 : 0, w < row[1] ? 0 : BY_POWER);
                is("ran", x.work(w, 4), w < row[1] ? 2 - w : HotHall.NONE);
                is("no machine trips", x.of(w, 2), 0);
            }
        }
    }

    /** A hall in which 90 are to be drawn at 10 and so much is in THE STORE, by which minute 1 comes. */
    private static HotHall stored(int held) {
        HotHall x = Halls.row(3);
        x.store(held, 10000, 1000);
        x.minutes(1);
        for (int w = 0; w < 3; w++) {
            x.batch(0, 900, 999, w);
        }
        is("stored", x.now(2), held);
        return x;
    }

    /** "and what THE STORE can give (RATE and what is in it at most)". */
    private static void powerStoreEdges() {
        DUE.part("power and store");
        // held, RATE, net, drawn
        int[][] rows = {{20, 50, 70, 90}, {20, 50, 69, 60}, {50, 20, 70, 90}, {50, 20, 69, 60}, {20, 20, 70, 90},
            {20, 20, 69, 60}, {90, 90, 0, 90}, {89, 90, 0, 60}, {90, 89, 0, 60}, {0, 90, 90, 90}, {0, 90, 89, 60},
            {90, 0, 89, 60}};
        for (int[] row : rows) {
            for (int high = 0; high <= 1000; high += 1000) {
                HotHall x = stored(row[0]);
                x.store(row[0], row[1], high);
                x.net(row[2]);
                x.minutes(1);
                is("drawn", x.now(3), row[3]);
            }
        }
    }

    /** "the last WORK by THE ORDER that runs is SHED": whatever its machine; one that draws nothing, too. */
    private static void shedOrder() {
        DUE.part("shed order");
        int[][] ranks = {{0, 1, 2}, {2, 1, 0}, {1, 2, 0}, {1, 1, 1}, {1, 0, 1}};
        int[][] shed = {{2, 1, 0}, {0, 1, 2}, {1, 0, 2}, {2, 1, 0}, {2, 0, 1}};
        for (int i = 0; i < ranks.length; i++) {
            for (int less = 1; less <= 3; less++) {
                HotHall x = Halls.row(3);
                for (int h = 0; h < 3; h++) {
                    x.batch(h, 99, 99, (h + 1) % 3);
                    x.house(h, ranks[i][h], 0, 0);
                }
                x.net(90 - 30 * less);
                x.minutes(1);
                for (int k = 0; k < 3; k++) {
                    is("shed " + k + " of " + less, x.work(shed[i][k], 2), k < less ? BY_POWER : 0);
                }
            }
        }
        HotHall x = Halls.row(1);
        x.machine(1, 5, 0, 5000, 0);
        x.batch(0, 99, 99, 0);
        x.batch(0, 99, 99, 1);
        x.net(29);
        x.minutes(1);
        works(x, 1, OPEN, 0, BY_POWER);
        works(x, 0, OPEN, 0, BY_POWER);
        is("it doesn't make heat", x.now(6), 0);
        x = Halls.row(2);
        x.batch(0, 99, 99, 0);
        x.batch(0, 99, 99, 0);
        x.batch(0, 99, 99, 1);
        x.net(59);
        x.minutes(1);
        works(x, 1, OPEN, 0, NO_ROOM);
        works(x, 2, OPEN, 0, BY_POWER);
    }

    /** "SHED for this minute". */
    private static void shedOneMinute() {
        DUE.part("shed one minute");
        HotHall x = Halls.row(1);
        x.batch(0, 99, 99, 0);
        x.net(29);
        x.minutes(1);
        works(x, 0, OPEN, 0, BY_POWER);
        x.net(30);
        x.minutes(1);
        works(x, 0, OPEN, 3, BY_POWER);
        is("it ran", x.of(0, 1), 3);
    }

    /** "What is drawn comes from THE STORE first, if the PRICE is HIGH or more, as far as it can give". */
    private static void storeGivesFirst() {
        DUE.part("store first");
        // held, RATE, and what it gives of 90
        int[][] rows = {{200, 200, 90}, {90, 90, 90}, {89, 90, 89}, {90, 89, 89}, {40, 90, 40}, {90, 40, 40}, {90, 0, 0},
            {0, 90, 0}};
        for (int[] row : rows) {
            HotHall x = stored(row[0]);
            long coin = x.now(7);
            x.store(row[0], row[1], 10);
            x.minutes(1);
            is("drawn", x.now(3), 90);
            is("in it", x.now(2), row[0] - row[2]);
            is("coin", x.now(7) - coin, 10 * (90 - row[2]));
        }
    }

    /** "else from THE NET, and what that has not from THE STORE". */
    private static void storeGivesLast() {
        DUE.part("net first");
        // net, what the store gives of 90, what it takes, its RATE
        int[][] rows = {{90, 0, 0, 200}, {89, 1, 0, 200}, {89, 1, 0, 1}, {50, 40, 0, 200}, {50, 40, 0, 40},
            {0, 90, 0, 200}, {0, 90, 0, 90}, {91, 0, 1, 200}, {91, 0, 1, 1}, {100, 0, 10, 200}, {100, 0, 9, 9},
            {1000, 0, 200, 200}};
        for (int[] row : rows) {
            HotHall x = stored(100);
            long coin = x.now(7);
            x.store(1000, row[3], 11);
            x.net(row[0]);
            x.minutes(1);
            is("drawn", x.now(3), 90);
            is("in it, net " + row[0], x.now(2), 100 - row[1] + row[2]);
            is("coin", x.now(7) - coin, 10 * (90 - row[1] + row[2]));
        }
    }

    /** "If the PRICE is below HIGH THE STORE takes what THE NET has left, RATE and ROOM at most." */
    private static void storeTakes() {
        DUE.part("store takes");
        // held, ROOM, RATE, net, takes
        int[][] rows = {{0, 50, 50, 50, 50}, {0, 50, 50, 49, 49}, {0, 50, 49, 50, 49}, {0, 49, 50, 50, 49},
            {30, 80, 50, 50, 50}, {30, 79, 50, 50, 49}, {30, 30, 50, 50, 0}, {30, 31, 50, 50, 1}, {30, 80, 0, 50, 0},
            {30, 80, 1, 50, 1}, {30, 80, 50, 0, 0}, {30, 80, 50, 1, 1}};
        for (int[] row : rows) {
            HotHall x = Halls.still();
            x.store(row[0], 10000, 1000);
            x.minutes(1);
            long coin = x.now(7);
            x.store(row[1], row[2], 11);
            x.net(row[3]);
            x.minutes(1);
            is("in it", x.now(2), row[0] + row[4]);
            is("coin", x.now(7) - coin, 10 * row[4]);
        }
    }

    /** "if the PRICE is HIGH or more", "If the PRICE is below HIGH"; "HIGH (0 .. 1000". */
    private static void highEnds() {
        DUE.part("HIGH");
        // HIGH, PRICE, whether that is high
        int[][] rows = {{0, 0, 1}, {0, 1, 1}, {1, 0, 0}, {1, 1, 1}, {50, 49, 0}, {50, 50, 1}, {50, 51, 1},
            {1000, 999, 0}, {1000, 1000, 1}};
        for (int[] row : rows) {
            HotHall x = stored(100);
            x.store(1000, 60, row[0]);
            x.price(1, row[1]);
            long coin = x.now(7);
            x.minutes(1);
            is("in it", x.now(2), row[2] == 1 ? 40 : 160);
            is("coin", x.now(7) - coin, row[1] * (row[2] == 1 ? 30 : 150));
        }
    }

    /** COIN is a long: 15000 a minute at 1000. */
    private static void coinIsLong() {
        DUE.part("coin");
        HotHall x = Halls.still();
        for (int m = 0; m < 10; m++) {
            x.machine(m, 0, 500, 5000, m % 4);
            x.batch(0, 1000, 9999, m);
        }
        for (int i = 0; i < 24; i++) {
            x.price(i, 1000);
        }
        Halls.go(x, 300);
        is("coin", x.now(7), 300 * 15000000L);
        is("is more than an int", x.now(7) > Integer.MAX_VALUE ? 1 : 0, 1);
        is("what more goes", x.other(1, -100000, 30, 1), -30 * 15000000L);
    }

    // ---- (g)

    private static HotHall drawing(int a, int b, int heat, int bits) {
        HotHall x = Halls.one();
        x.batch(0, 99, 99, 0);
        x.heat(0, heat);
        x.odds(a, b, Halls.lotFor(bits));
        x.minutes(1);
        return x;
    }

    /** "(A, B 0 .. 100; 0 at first.)" */
    private static void oddsAtFirst() {
        DUE.part("odds at first");
        HotHall x = Halls.one();
        x.heat(0, 100000);
        x.batch(0, 999, 999, 0);
        x.minutes(1);
        is("the lot was 0", Halls.lot(x), 12345);
        x.minutes(1);
        is("then", Halls.lot(x), Halls.nextLot(12345));
        x.minutes(60);
        is("none fails", x.now(5), 0);
    }

    /** "its bits 16 on left over by 1000 below A and B times (its CELL's HEAT by 100, cut): it FAILS". */
    private static void oddsEdges() {
        DUE.part("odds");
        int[][] rows = {{0, 0, 0, 0, 0}, {1, 0, 0, 0, 1}, {1, 0, 0, 1, 0}, {1, 0, 0, 999, 0}, {1, 0, 0, 1000, 1},
            {1, 0, 0, 1001, 0}, {1, 0, 0, 65000, 1}, {1, 0, 0, 65001, 0}, {100, 0, 0, 99, 1}, {100, 0, 0, 100, 0},
            {0, 1, 99, 0, 0}, {0, 1, 100, 0, 1}, {0, 1, 100, 1, 0}, {0, 1, 199, 1, 0}, {0, 1, 200, 1, 1},
            {0, 100, 999, 899, 1}, {0, 100, 999, 900, 0}, {0, 100, 1000, 999, 1}, {99, 100, 900, 998, 1},
            {99, 100, 900, 999, 0}, {100, 100, 100000, 999, 1}, {1, 0, 0, 32768, 0}, {100, 0, 0, 33000, 1},
            {100, 0, 0, 33099, 1}, {100, 0, 0, 33100, 0}, {100, 0, 0, 65535, 0}, {35, 100, 500, 65535, 0},
            {36, 100, 500, 65535, 1}, {67, 100, 700, 32767, 0}, {68, 100, 700, 32767, 1}, {68, 100, 700, 32768, 0},
            {69, 100, 700, 32768, 1}, {0, 1, 100000, 999, 1}};
        for (int[] row : rows) {
            HotHall x = drawing(row[0], row[1], row[2], row[3]);
            is("fails by " + row[0] + " and " + row[1] + " at " + row[2] + " with " + row[3], x.of(0, 3), row[4]);
            works(x, 0, OPEN, row[4] == 1 ? 0 : 3, row[4] == 1 ? BY_FAILING : 0);
            is("how many failed", x.now(5), row[4]);
        }
    }

    /** "HEAT by 100, cut", below 0: -300 takes 3 times B, -90 takes nothing. */
    private static void oddsBelowZero() {
        DUE.part("odds below 0");
        // heat that becomes less 1.3 times of it, bits, A, B, fails
        int[][] rows = {{1000, 0, 3, 1, 0}, {1000, 0, 4, 1, 1}, {1000, 1, 4, 1, 0}, {300, 0, 1, 1, 1}, {300, 0, 0, 100, 0},
            {400, 0, 100, 100, 0}, {400, 0, 100, 99, 1}};
        for (int[] row : rows) {
            HotHall x = new HotHall();
            x.room(0, 500, 200);
            x.machine(5, 0, 0, 5000, 0);
            x.batch(0, 99, 99, 0);
            x.heat(5, row[0]);
            x.odds(row[2], row[3], Halls.lotFor(row[1]));
            x.minutes(1);
            is("heat", x.cell(5, 0), -3 * row[0] / 10);
            is("fails", x.of(0, 3), row[4]);
        }
    }

    /** (g) is behind (f): its CELL's HEAT is that to which the minute came. */
    private static void oddsAtHeatOfG() {
        DUE.part("odds at heat of (g)");
        HotHall x = Halls.still();
        x.machine(0, 1, 0, 5000, 0);
        x.heat(0, 97);
        x.batch(0, 99, 99, 0);
        x.odds(0, 1, Halls.lotFor(0));
        x.minutes(1);
        is("97 and 3", x.of(0, 3), 1);
        x = Halls.one();
        x.heat(0, 100);
        x.cooler(0, 1, 0);
        x.batch(0, 99, 99, 0);
        x.odds(0, 1, Halls.lotFor(0));
        x.minutes(1);
        is("100 less 1", x.of(0, 3), 0);
    }

    /** "each running MACHINE, by numbers: the LOT becomes LOT 1103515245 and 12345, wrapped". */
    private static void lotsByNumbers() {
        DUE.part("lots by numbers");
        for (int start : new int[] {0, 1, -1, Halls.MOST, Halls.LEAST, Halls.lotFor(40)}) {
            HotHall x = Halls.row(3);
            for (int w = 0; w < 3; w++) {
                x.batch(0, 99, 99, 2 - w);
            }
            x.heat(0, 250);
            x.heat(1, 250);
            x.heat(2, 250);
            x.odds(50, 100, start);
            x.minutes(1);
            int lot = start;
            for (int m = 0; m < 3; m++) {
                lot = Halls.nextLot(lot);
                boolean fails = (lot >>> 16) % 1000 < 250;
                is("machine " + m, x.of(m, 3), fails ? 1 : 0);
                works(x, 2 - m, OPEN, fails ? 0 : 3, fails ? BY_FAILING : 0);
            }
            is("three lots", Halls.lot(x), lot);
        }
    }

    /** Each machine by itself: its own work is not done, no other's. */
    private static void failedOfThree() {
        DUE.part("failed of three");
        for (int hot = 0; hot < 3; hot++) {
            HotHall x = Halls.still();
            for (int m = 0; m < 3; m++) {
                x.machine(m, 0, 0, 5000, 3 - m);
            }
            x.steady(0, 9, 9, 1, -1);
            for (int w = 0; w < 3; w++) {
                x.batch(0, 99, 99, 2 - w);
            }
            x.heat(hot, 100000);
            x.odds(0, 1, 77);
            x.minutes(1);
            for (int m = 0; m < 3; m++) {
                is("failed", x.of(m, 3), m == hot ? 1 : 0);
                works(x, 3 - m, OPEN, m == hot ? 0 : 3, m == hot ? BY_FAILING : 0);
            }
        }
    }

    /** Only of those that run. */
    private static void lotsOnlyForRunning() {
        DUE.part("lots of those that run");
        HotHall x = Halls.row(3);
        x.batch(0, 99, 99, 1);
        x.odds(1, 0, Halls.lotFor(0));
        x.minutes(1);
        is("0 has no work", x.of(0, 3), 0);
        is("1 has the first lot", x.of(1, 3), 1);
        is("2 has no work", x.of(2, 3), 0);
        is("one told", x.count(6), 1);
        x.odds(100, 100, 5);
        x.minutes(1);
        is("one that failed has no lot", Halls.lot(x), 5);
        is("and isn't told", x.count(6), 1);
        x = Halls.row(1);
        x.batch(0, 99, 99, 0);
        x.odds(100, 0, Halls.lotFor(0));
        x.net(0);
        x.minutes(1);
        is("one whose work was shed has none", x.of(0, 3), 0);
        is("one whose work was shed isn't told", x.count(6), 0);
    }

    /** "it FAILS (for good)". */
    private static void failedForGood() {
        DUE.part("for good");
        HotHall x = drawing(1, 0, 0, 0);
        x.odds(0, 0, 0);
        x.heat(0, 0);
        for (int i = 0; i < 5; i++) {
            x.minutes(10);
            is("failed", x.of(0, 3), 1);
            is("one", x.now(5), 1);
            is("has none", x.of(0, 0), HotHall.NONE);
        }
    }

    /** "CAUSE 5, its work was not done this minute": but what it made, drew and cost is so. */
    private static void failedNotDone() {
        DUE.part("not done");
        HotHall x = Halls.still();
        x.machine(3, 7, 10, 5000, 0);
        x.steady(0, 0, 0, 2, 0);
        x.odds(1, 0, Halls.lotFor(0));
        is("breaks", x.minutes(1), 1);
        works(x, 0, BROKEN, 0, BY_FAILING);
        is("ran at the end of (e)", x.of(0, 1), 2);
        is("drawn", x.now(3), 20);
        is("coin", x.now(7), 200);
        is("made", x.cell(3, 0), 14);
    }

    // ---- (h)

    /** "The CAUSE of a BATCH is that of the last minute in which it was OPEN and was not done at speed 3". */
    private static void batchCause() {
        DUE.part("cause of a batch");
        HotHall x = Halls.row(1);
        x.batch(0, 30, 99, 0);
        String[] texts = {"3", "2", "3", "0", "1", "3"};
        int[] cause = {0, SLOW, SLOW, BY_RULES, SLOW, SLOW};
        int[] sum = {3, 5, 8, 8, 9, 12};
        for (int i = 0; i < texts.length; i++) {
            Halls.put(x, texts[i]);
            x.minutes(1);
            works(x, 0, OPEN, sum[i], cause[i]);
        }
        x.net(29);
        x.minutes(1);
        works(x, 0, OPEN, 12, BY_POWER);
        x.net(30);
        x.feed(0, 29);
        x.minutes(1);
        works(x, 0, OPEN, 12, BY_FEED);
        x.feed(0, 30);
        x.minutes(1);
        works(x, 0, OPEN, 12, NO_ROOM);
        x.minutes(2);
        works(x, 0, OPEN, 15, NO_ROOM);
        x.odds(1, 0, Halls.lotFor(0));
        x.minutes(1);
        works(x, 0, OPEN, 15, BY_FAILING);
        x.minutes(1);
        works(x, 0, OPEN, 15, NO_ROOM);
        Halls.go(x, 99);
        works(x, 0, BROKEN, 15, NO_ROOM);
    }

    /** "0: none": what is done at speed 3 from first to last has none, kept or broken; nor what was never OPEN. */
    private static void causeNone() {
        DUE.part("no cause");
        HotHall x = Halls.row(2);
        x.batch(0, 6, 9, 0);
        x.batch(0, 7, 1, 1);
        x.steady(0, 5, 6, 3, 0);
        x.minutes(2);
        works(x, 0, KEPT, 6, 0);
        works(x, 1, BROKEN, 6, 0);
        works(x, 2, NOT_YET, 0, 0);
        Halls.put(x, "0");
        x.minutes(2);
        works(x, 0, KEPT, 6, 0);
        works(x, 1, BROKEN, 6, 0);
        works(x, 2, NOT_YET, 0, 0);
    }
}
