/** Promises 12 to 22 and 30 to 37: each sentence that names an edge and is not told by Terms. */
public final class KeepingEdgesTest {
    private static final Due DUE = new Due();

    public static void main(String[] args) {
        batchFromNow();
        steadyFromNow();
        pinnedToThoseThere();
        minutesEnds();
        minutesTogether();
        beyond9999();
        lastWorks();
        cellsNow();
        ofAheadOfMinutes();
        ofLastMinute();
        ofTripAndFail();
        workLastMinute();
        nowAhead();
        nowBehind();
        beginHowMany();
        noRecordAhead();
        recordFortyAtMost();
        recordOfMinutes();
        forgeEnds();
        checkFirst();
        checkByImage();
        checkAcrossImages();
        imagesTwo();
        imagesKeepAllBut();
        imagesKeepEach();
        imagesKeepRanks();
        imagesKeepWorks();
        imagesKeepText();
        imagesKeepTold();
        fromGoesOn();
        fromGoesBack();
        countEach();
        digestOfNew();
        digestOfAll();
        digestWraps();
        DUE.end();
    }

    private static void is(String call, long got, long want) {
        DUE.is(call, got, want);
    }

    // ---- works

    /** Promise 13: "by a minute (no earlier than now, 9999 at most)". */
    private static void batchFromNow() {
        DUE.part("13 by a minute");
        for (int now : new int[] {0, 1, 61, 9999}) {
            HotHall x = Halls.still();
            Halls.go(x, now);
            is("earlier", x.batch(0, 1, now - 1, -1), HotHall.BAD);
            is("now", x.batch(0, 1, now, -1), 0);
            is("last", x.batch(0, 1, 9999, -1), 1);
            is("beyond", x.batch(0, 1, 10000, -1), HotHall.BAD);
            is("two", x.count(1), 2);
        }
    }

    /** Promise 14: "BAD: from above to, a minute that is gone, too". */
    private static void steadyFromNow() {
        DUE.part("14 from and to");
        for (int now : new int[] {0, 1, 61, 9999}) {
            HotHall x = Halls.still();
            Halls.go(x, now);
            is("from gone", x.steady(0, now - 1, 9999, 1, -1), HotHall.BAD);
            is("both gone", x.steady(0, now - 1, now - 1, 1, -1), HotHall.BAD);
            is("from above to", x.steady(0, now + 1, now, 1, -1), HotHall.BAD);
            is("from above to", x.steady(0, 9999, 9998, 1, -1), HotHall.BAD);
            is("beyond", x.steady(0, now, 10000, 1, -1), HotHall.BAD);
            is("now", x.steady(0, now, now, 1, -1), 0);
            is("open", x.work(0, 0), 1);
            is("last", x.steady(0, 9999, 9999, 1, -1), 1);
            is("from now to the last", x.steady(0, now, 9999, 1, -1), 2);
            is("open only in its minutes", x.work(1, 0), now == 9999 ? 1 : 0);
            is("three", x.count(1), 3);
        }
    }

    /** "PINNED to a MACHINE (NONE: not)": one that is there as it is told. */
    private static void pinnedToThoseThere() {
        DUE.part("pinned to those there");
        HotHall x = Halls.still();
        for (int m = 0; m < 10; m++) {
            is("not there yet", x.batch(0, 1, 9, m), HotHall.BAD);
            is("not there yet", x.steady(0, 1, 9, 1, m), HotHall.BAD);
            is("below none", x.batch(0, 1, 9, -2), HotHall.BAD);
            is("below none", x.steady(0, 1, 9, 1, -2), HotHall.BAD);
            x.machine(m, 0, 0, 5000, 0);
            if (m % 2 == 0) {
                is("there", x.batch(0, 1, 9, m), m);
            } else {
                is("there", x.steady(0, 0, 9, 1, m), m);
            }
        }
        is("no eleventh", x.batch(0, 1, 9, 10), HotHall.BAD);
        x.minutes(1);
        for (int m = 0; m < 10; m++) {
            is("its own", x.work(m, 4), m);
        }
    }

    // ---- minutes

    /** Promise 18: "n MINUTES go (1 .. 60)". */
    private static void minutesEnds() {
        DUE.part("18 minutes");
        HotHall x = Halls.still();
        int[] wrong = {0, -1, 61, 62, 120, Halls.LEAST, Halls.MOST};
        for (int n : wrong) {
            is("minutes " + n, x.minutes(n), HotHall.BAD);
            is("none went", x.now(0), 0);
        }
        is("one", x.minutes(1), 0);
        is("one", x.now(0), 1);
        is("60", x.minutes(60), 0);
        is("61", x.now(0), 61);
    }

    /** "how many WORKS BROKE": in all of these minutes; and so many at once are as one by one. */
    private static void minutesTogether() {
        DUE.part("18 together");
        HotHall x = Halls.still();
        for (int w = 0; w < 16; w++) {
            x.batch(0, 1, 4 * w, -1);
        }
        is("by 0 to 56", x.minutes(57), 15);
        is("by 60", x.minutes(3), 0);
        is("by 60", x.minutes(1), 1);
        is("none is left", x.minutes(60), 0);
        HotHall one = Halls.busy();
        HotHall all = Halls.busy();
        int broke = 0;
        for (int i = 0; i < 60; i++) {
            broke += one.minutes(1);
        }
        is("together", all.minutes(60), broke);
        is("digest", all.digest(), one.digest());
    }

    /** "BAD: beyond minute 9999, too." */
    private static void beyond9999() {
        DUE.part("18 beyond");
        for (int n = 1; n <= 60; n += n < 59 ? 29 : 1) {
            HotHall x = Halls.still();
            Halls.go(x, 10000 - n);
            long was = x.digest();
            is("to 10000", x.minutes(n), HotHall.BAD);
            is("beyond", x.minutes(60), HotHall.BAD);
            is("nothing went", x.digest(), was);
            if (n > 1) {
                is("to 9999", x.minutes(n - 1), 0);
            }
            is("9999", x.now(0), 9999);
            is("no more", x.minutes(1), HotHall.BAD);
            is("no more", x.minutes(60), HotHall.BAD);
            is("9999", x.now(0), 9999);
        }
    }

    /** Works of the last minutes: those by 9998 are over at 9999, those by 9999 never. */
    private static void lastWorks() {
        DUE.part("18 last works");
        HotHall x = Halls.row(2);
        Halls.go(x, 9990);
        x.steady(0, 9998, 9998, 1, 0);
        x.steady(0, 9999, 9999, 1, 0);
        x.batch(0, 27, 9998, 1);
        x.batch(0, 1, 9998, 1);
        x.batch(0, 1, 9999, 1);
        is("one breaks", x.minutes(9), 1);
        is("kept", x.work(0, 0), 2);
        is("open", x.work(1, 0), 1);
        is("kept", x.work(2, 0), 2);
        is("broken", x.work(3, 0), 3);
        is("open", x.work(4, 0), 1);
        is("no minute", x.minutes(1), HotHall.BAD);
        is("open", x.work(4, 0), 1);
    }

    // ---- what is told

    /** Promise 19: "HEAT of a CELL (what = 0), its GAUGE (1)". */
    private static void cellsNow() {
        DUE.part("19 cell");
        for (int c = 0; c < 12; c++) {
            HotHall x = Halls.still();
            x.heat(c, 100000);
            x.minutes(1);
            x.heat(c, 7);
            is("heat", x.cell(c, 0), 7);
            is("gauge", x.cell(c, 1), 100000);
            is("what", x.cell(c, 2), Halls.BAD_HEAT);
            is("what", x.cell(c, -1), Halls.BAD_HEAT);
        }
        HotHall x = Halls.still();
        is("no cell", x.cell(12, 0), Halls.BAD_HEAT);
        is("no cell", x.cell(-1, 1), Halls.BAD_HEAT);
    }

    /** Promise 20: of a machine to which no minute has gone: none, 0, 0, 0 and its cell. */
    private static void ofAheadOfMinutes() {
        DUE.part("20 ahead");
        HotHall x = Halls.still();
        x.batch(0, 99, 99, -1);
        for (int m = 0; m < 10; m++) {
            is("not there", x.of(m, 0), HotHall.BAD);
            x.machine(11 - m, 0, 0, 5000, 0);
            int[] due = {HotHall.NONE, 0, 0, 0, 11 - m};
            for (int what = 0; what < 5; what++) {
                is("of " + m + ", " + what, x.of(m, what), due[what]);
            }
            is("what", x.of(m, 5), HotHall.BAD);
            is("what", x.of(m, -1), HotHall.BAD);
            x.minutes(1);
        }
        is("the first has it", x.of(0, 0), 0);
        is("the last has none", x.of(9, 0), HotHall.NONE);
    }

    /** "Of a MACHINE in the last minute: 0 its WORK (NONE), 1 its speed at the end of (e)". */
    private static void ofLastMinute() {
        DUE.part("20 last minute");
        HotHall x = Halls.row(1);
        x.batch(0, 3, 0, -1);
        x.batch(0, 99, 99, -1);
        x.minutes(1);
        is("the work of the last minute", x.of(0, 0), 0);
        x.minutes(1);
        is("of this one", x.of(0, 0), 1);
        x.net(29);
        x.minutes(1);
        is("shed: at the end of (e)", x.of(0, 1), 0);
        is("it was placed there", x.of(0, 0), 1);
        x.net(100);
        x.feed(0, 29);
        x.minutes(1);
        is("tripped: at the end of (e)", x.of(0, 1), 0);
        is("it was placed there", x.of(0, 0), 1);
        x.minutes(1);
        is("it has none", x.of(0, 0), HotHall.NONE);
        x.feed(0, 30);
        x.minutes(1);
        is("it has none", x.of(0, 0), HotHall.NONE);
        x.minutes(1);
        is("it runs", x.of(0, 1), 3);
    }

    /** "2 minutes yet TRIPPED, 3 whether it FAILED". */
    private static void ofTripAndFail() {
        DUE.part("20 trip and fail");
        HotHall x = Halls.row(2);
        x.batch(0, 99, 99, 0);
        x.batch(0, 99, 99, 1);
        x.feed(0, 30);
        x.odds(1, 0, Halls.lotFor(0));
        x.minutes(1);
        is("failed", x.of(0, 3), 1);
        is("not tripped", x.of(0, 2), 0);
        is("not failed", x.of(1, 3), 0);
        for (int yet = 2; yet >= 0; yet--) {
            is("tripped", x.of(1, 2), yet);
            x.minutes(1);
        }
        is("runs alone", x.of(1, 1), 3);
        is("0 is yet", x.of(1, 2), 0);
    }

    /** Promise 21: "4 the MACHINE that ran it in the last minute (NONE)". */
    private static void workLastMinute() {
        DUE.part("21 last minute");
        HotHall x = Halls.row(2);
        x.batch(0, 99, 99, 1);
        is("none yet", x.work(0, 4), HotHall.NONE);
        x.minutes(1);
        is("it ran", x.work(0, 4), 1);
        x.net(29);
        x.minutes(1);
        is("shed", x.work(0, 4), HotHall.NONE);
        x.net(30);
        Halls.put(x, "0");
        x.minutes(1);
        is("stopped", x.work(0, 4), HotHall.NONE);
        x.erase();
        x.feed(0, 29);
        x.minutes(1);
        is("tripped", x.work(0, 4), HotHall.NONE);
        x.feed(0, 30);
        x.minutes(1);
        is("no room", x.work(0, 4), HotHall.NONE);
        x.minutes(2);
        is("it ran", x.work(0, 4), 1);
        x.odds(1, 0, Halls.lotFor(0));
        x.minutes(1);
        is("it ran, though it failed", x.work(0, 4), 1);
        x.minutes(1);
        is("no room", x.work(0, 4), HotHall.NONE);
    }

    /** Promise 22, ahead of the first minute. */
    private static void nowAhead() {
        DUE.part("22 ahead");
        HotHall x = new HotHall();
        for (int what = 0; what <= 7; what++) {
            is("now " + what, x.now(what), 0);
        }
        Halls.put(x, "2");
        is("no last minute", x.now(1), 0);
        x.batch(0, 1, 9, -1);
        is("open", x.now(4), 1);
        x.steady(0, 1, 9, 1, -1);
        is("not yet open", x.now(4), 1);
        x.heat(0, 7);
        x.heat(11, 8);
        is("sum", x.now(6), 15);
        is("what", x.now(8), Halls.BAD_LONG);
        is("what", x.now(-1), Halls.BAD_LONG);
    }

    /** "1 THE SPEED of the last one (by RULES) .. 3 what was drawn in the last one, 4 WORKS OPEN": now. */
    private static void nowBehind() {
        DUE.part("22 behind");
        HotHall x = Halls.row(1);
        x.batch(0, 3, 9, -1);
        x.steady(0, 1, 1, 1, -1);
        Halls.put(x, "3-m");
        x.minutes(1);
        is("speed", x.now(1), 3);
        is("drawn", x.now(3), 30);
        is("one is over, one has come", x.now(4), 1);
        Halls.put(x, "1");
        is("the last minute's", x.now(1), 3);
        x.minutes(1);
        is("speed", x.now(1), 1);
        is("drawn", x.now(3), 10);
        x.minutes(1);
        is("nothing was drawn", x.now(3), 0);
        is("speed, though nothing runs", x.now(1), 1);
    }

    // ---- the record

    /** Promise 30: "how many minutes the one ahead has". */
    private static void beginHowMany() {
        DUE.part("30 begin");
        int[] minutes = {0, 1, 39, 40, 41, 60};
        HotHall x = Halls.still();
        int ahead = 0;
        for (int n : minutes) {
            is("ahead", x.begin(), ahead);
            is("none", x.count(5), 0);
            is("none", x.record(0), Halls.BAD_LONG);
            if (n > 0) {
                x.minutes(n);
            }
            ahead = Math.min(40, n);
            is("how many", x.count(5), ahead);
        }
        is("ahead", x.begin(), 40);
        is("ahead", x.begin(), 0);
    }

    /** "from its beginning on": there is none ahead of the first. */
    private static void noRecordAhead() {
        DUE.part("30 no record ahead");
        HotHall x = new HotHall();
        x.minutes(60);
        is("none", x.count(5), 0);
        is("none", x.record(0), Halls.BAD_LONG);
        is("none", x.forge(0, 0), HotHall.BAD);
        is("all come out", x.check(), HotHall.NONE);
        is("none ahead", x.begin(), 0);
    }

    /** "each minute's sum of HEAT, 40 at most". */
    private static void recordFortyAtMost() {
        DUE.part("31 forty at most");
        HotHall x = new HotHall();
        x.begin();
        long[] sums = new long[42];
        for (int i = 0; i < 42; i++) {
            is("not yet", x.record(i), Halls.BAD_LONG);
            x.heat(0, 1000 * i);
            x.minutes(1);
            sums[i] = x.now(6);
            is("how many", x.count(5), Math.min(40, i + 1));
        }
        for (int i = 0; i < 40; i++) {
            is("sum " + i, x.record(i), sums[i]);
        }
        is("not so many", x.record(40), Halls.BAD_LONG);
        is("not so many", x.record(41), Halls.BAD_LONG);
        x = Halls.still();
        x.heat(0, 5);
        x.begin();
        x.minutes(60);
        is("40 at once", x.count(5), 40);
        is("the 40th", x.record(39), 5);
        is("not so many", x.record(40), Halls.BAD_LONG);
    }

    /** A sum is that of the minute's end; what is told of heat thereafter is not in it. */
    private static void recordOfMinutes() {
        DUE.part("31 of minutes");
        HotHall x = Halls.still();
        x.begin();
        x.heat(0, 100000);
        x.heat(11, 100000);
        x.minutes(1);
        x.heat(0, 3);
        is("both", x.record(0), 200000);
        x.minutes(1);
        is("3 and 100000", x.record(1), 100003);
        is("below 0", x.record(-1), Halls.NO_LONG);
        is("below 0, least", x.record(Halls.LEAST), Halls.NO_LONG);
        is("not so many", x.record(Halls.MOST), Halls.BAD_LONG);
    }

    /** Promise 32: "A sum is FORGED: 1. BAD: no such one." */
    private static void forgeEnds() {
        DUE.part("32 forge");
        HotHall x = Halls.still();
        x.begin();
        is("none", x.forge(0, 1), HotHall.BAD);
        x.minutes(40);
        long[] values = {Long.MIN_VALUE, -1, 0, 1, Long.MAX_VALUE, Halls.BAD_LONG};
        for (long v : values) {
            for (int i : new int[] {0, 39}) {
                is("forged", x.forge(i, v), 1);
                is("sum", x.record(i), v);
                is("the next is as it was", x.record(i == 0 ? 1 : 38), 0);
            }
        }
        for (int i : new int[] {-1, 40, Halls.LEAST, Halls.MOST}) {
            is("no such one", x.forge(i, 1), HotHall.BAD);
        }
        is("40", x.count(5), 40);
        x.begin();
        is("none again", x.forge(0, 1), HotHall.BAD);
    }

    /** Promise 33: "the first that does not come out"; "NONE: all come out". */
    private static void checkFirst() {
        DUE.part("33 the first");
        HotHall x = Halls.busy();
        is("12 come out", x.check(), HotHall.NONE);
        for (int i = 11; i >= 0; i--) {
            long was = x.record(i);
            x.forge(i, was + 1);
            is("forged", x.check(), i);
            x.forge(i, was);
            is("mended", x.check(), i == 11 ? HotHall.NONE : i + 1);
            x.forge(i, was - 1);
            is("the first", x.check(), i);
        }
        x = Halls.still();
        x.begin();
        is("none is there", x.check(), HotHall.NONE);
        x.minutes(60);
        x.forge(39, 1);
        is("the last", x.check(), 39);
        x.forge(39, 0);
        is("all", x.check(), HotHall.NONE);
        x.forge(38, 1L << 32);
        is("as longs", x.check(), 38);
    }

    /** "(gone over by what the image of its beginning has)": what was told thereafter is not gone over. */
    private static void checkByImage() {
        DUE.part("33 by the image");
        HotHall x = Halls.still();
        x.heat(5, 100);
        x.begin();
        x.minutes(3);
        x.heat(5, 101);
        is("three come out", x.check(), HotHall.NONE);
        x.minutes(1);
        is("101 for 100", x.check(), 3);
        x.begin();
        x.minutes(1);
        is("a new beginning", x.check(), HotHall.NONE);
        x.machine(5, 9, 0, 5000, 0);
        x.batch(0, 99, 99, -1);
        x.minutes(1);
        is("a work for none", x.check(), 1);
        x.image(0);
        is("images are nothing to it", x.check(), 1);
    }

    /** "IMAGES .. keep all but .. the RECORD": it is as it was, and goes on. */
    private static void checkAcrossImages() {
        DUE.part("33 across images");
        HotHall x = Halls.still();
        x.heat(0, 50);
        x.image(0);
        x.heat(0, 60);
        x.begin();
        x.minutes(2);
        x.from(0);
        is("two", x.count(5), 2);
        is("60", x.record(1), 60);
        is("both come out", x.check(), HotHall.NONE);
        x.minutes(1);
        is("50", x.record(2), 50);
        is("50 for 60", x.check(), 2);
        is("three", x.begin(), 3);
    }

    // ---- images

    /** Promises 34 and 35: "IMAGES 0, 1"; "NO: none was kept". */
    private static void imagesTwo() {
        DUE.part("34 two images");
        for (int i = 0; i < 2; i++) {
            HotHall x = Halls.still();
            is("none was kept", x.from(i), HotHall.NO);
            x.heat(0, 7);
            is("kept", x.image(i), 1);
            is("the other was not", x.from(1 - i), HotHall.NO);
            x.heat(0, 8);
            is("from", x.from(i), 1);
            is("7", x.cell(0, 0), 7);
            x.heat(0, 9);
            is("the other", x.image(1 - i), 1);
            is("from", x.from(i), 1);
            is("7", x.cell(0, 0), 7);
            is("from the other", x.from(1 - i), 1);
            is("9", x.cell(0, 0), 9);
            is("anew", x.image(i), 1);
            x.heat(0, 1);
            is("from", x.from(i), 1);
            is("9", x.cell(0, 0), 9);
        }
        HotHall x = Halls.still();
        for (int i : new int[] {-1, 2, Halls.LEAST, Halls.MOST}) {
            is("no image", x.image(i), HotHall.BAD);
            is("no image", x.from(i), HotHall.BAD);
        }
    }

    /** "keep all but them, DRILLS and the RECORD". */
    private static void imagesKeepAllBut() {
        DUE.part("34 all but");
        HotHall x = Halls.row(1);
        x.image(0);
        x.drill(2, 0, 0, 5);
        x.begin();
        x.minutes(4);
        x.image(1);
        x.from(0);
        is("the drill", x.worst(0), 2);
        is("the record", x.count(5), 4);
        is("image 1", x.from(1), 1);
        is("minute 4", x.now(0), 4);
        x.from(0);
        is("minute 0", x.now(0), 0);
        x.drill(2, 0, 100000, 1);
        x.steady(0, 0, 0, 1, -1);
        is("the drill is told anew", x.worst(1), 0);
        x.from(0);
        is("it stays so", x.worst(0), 2);
        x.begin();
        x.from(1);
        is("a new record stays, too", x.count(5), 0);
    }

    /** Each thing that is changed behind an image is as it was again; the record is begun anew, as it is no part of it. */
    private static void imagesKeepEach() {
        DUE.part("34 each");
        HotHall untouched = Halls.busy();
        untouched.image(0);
        untouched.begin();
        long[] due = Probe.answers(untouched);
        for (Changes.Change change : Changes.all()) {
            HotHall x = Halls.busy();
            x.image(0);
            change.on().accept(x);
            x.from(0);
            x.begin();
            DUE.holds(change.name() + " is as it was", java.util.Arrays.equals(Probe.answers(x), due));
            x = Halls.busy();
            change.on().accept(x);
            x.image(1);
            long was = x.digest();
            x.minutes(3);
            x.from(0);
            x.minutes(4);
            x.begin();
            x.from(1);
            HotHall twin = Halls.busy();
            change.on().accept(twin);
            twin.image(1);
            twin.begin();
            DUE.holds(change.name() + " is kept, " + was, java.util.Arrays.equals(Probe.answers(x), Probe.answers(twin)));
        }
    }

    /** RANKS are as they were for works that come behind it, too. */
    private static void imagesKeepRanks() {
        DUE.part("34 ranks");
        HotHall x = Halls.one();
        x.house(0, 5, 0, 0);
        x.house(1, 4, 0, 0);
        x.image(0);
        x.house(1, 9, 0, 0);
        x.from(0);
        x.batch(0, 9, 9, -1);
        x.batch(1, 9, 9, -1);
        x.minutes(1);
        is("4 is ahead of 5", x.of(0, 0), 1);
    }

    /** A WORK's HOUSE, kind, minutes, what it wants and its pin, though others had its number meanwhile. */
    private static void imagesKeepWorks() {
        DUE.part("34 works");
        HotHall x = Halls.row(2);
        x.image(0);
        x.steady(3, 1, 2, 2, 1);
        x.batch(4, 5, 1, 0);
        x.image(1);
        x.from(0);
        x.batch(5, 900, 7, 0);
        x.steady(6, 0, 9, 3, -1);
        x.minutes(1);
        x.from(1);
        is("house", x.work(0, 3), 3);
        is("house", x.work(1, 3), 4);
        is("not yet", x.work(0, 0), 0);
        x.minutes(1);
        is("machine", x.work(1, 4), 0);
        is("open", x.work(0, 0), 1);
        x.minutes(1);
        is("machine", x.work(0, 4), 1);
        is("at no more than it wants", x.of(1, 1), 2);
        is("kept", x.work(1, 0), 2);
        x.minutes(1);
        is("kept", x.work(0, 0), 2);
    }

    /** RULES are as they were for characters that come behind them, too. */
    private static void imagesKeepText() {
        DUE.part("34 text");
        HotHall x = Halls.still();
        Halls.put(x, "3-");
        x.image(0);
        Halls.put(x, "1)2");
        x.from(0);
        is("too early", x.fault(), 21);
        is("behind it", x.write('1'), 3);
        is("3-1", x.fault(), HotHall.NONE);
        x.minutes(1);
        is("3-1", x.now(1), 2);
        is("erased", x.erase(), 3);
        x.from(0);
        is("two", x.count(4), 2);
    }

    /** What is told for ODDS is as it was. */
    private static void imagesKeepTold() {
        DUE.part("34 told");
        HotHall x = Halls.row(1);
        x.batch(0, 99, 99, 0);
        x.minutes(1);
        x.image(0);
        x.odds(1, 0, Halls.lotFor(0));
        x.minutes(1);
        x.image(1);
        is("one failed", x.fitted(), 2000);
        for (int i = 0; i < 2; i++) {
            x.from(0);
            is("one stood", x.fitted(), 100);
            is("one is told", x.count(6), 1);
            x.from(1);
            is("one failed, too", x.fitted(), 2000);
            is("two are told", x.count(6), 2);
        }
        x = Halls.row(2);
        x.batch(0, 900, 999, 0);
        x.heat(0, 200);
        x.heat(1, 900);
        x.minutes(28);
        x.odds(1, 0, Halls.lotFor(0));
        x.minutes(1);
        is("28 stood and one failed at 2: 34", x.fitted(), 1609);
        x.image(0);
        x.odds(0, 0, 0);
        x.batch(0, 900, 999, 1);
        x.minutes(20);
        is("20 more stood at 9: the greatest A, no B", x.fitted(), 2000);
        x.from(0);
        is("34 again", x.fitted(), 1609);
    }

    /** "the hall goes on from one": as it went on. */
    private static void fromGoesOn() {
        DUE.part("35 goes on");
        HotHall x = Halls.busy();
        x.image(0);
        long was = x.digest();
        long[] ahead = new long[20];
        for (int i = 0; i < 20; i++) {
            x.minutes(1);
            ahead[i] = x.digest() - worthOfRecord(x);
        }
        for (int round = 0; round < 2; round++) {
            x.from(0);
            is("as it was", x.digest() - worthOfRecord(x), was - 12 * times31(42 + 30 + 60));
            for (int i = 0; i < 20; i++) {
                x.minutes(1);
                is("minute " + i, x.digest() - worthOfRecord(x), ahead[i]);
            }
        }
    }

    /** What count(5), the one thing of the record in the digest, is worth in it: 6 machines, 12 works. */
    private static long worthOfRecord(HotHall x) {
        return x.count(5) * times31(42 + 30 + 60);
    }

    /** Behind count(5): count(6), 8 of now, 24 of cells, 8 bills and the lot are 42. */
    private static long times31(int times) {
        long worth = 1;
        for (int i = 0; i < times; i++) {
            worth *= 31;
        }
        return worth;
    }

    /** The minute's number, works, machines and what was told go back, too, so that FULL and BAD are as they were. */
    private static void fromGoesBack() {
        DUE.part("35 goes back");
        HotHall x = Halls.still();
        x.image(0);
        for (int m = 0; m < 10; m++) {
            x.machine(m, 0, 0, 5000, 0);
        }
        for (int w = 0; w < 16; w++) {
            x.batch(0, 99, 99, w % 10);
        }
        for (int i = 0; i < 60; i++) {
            x.write(' ');
        }
        x.minutes(10);
        x.image(1);
        x.from(0);
        int[] none = {0, 0, 0, 0, 0, 0, 0};
        for (int i = 0; i < 7; i++) {
            is("count " + i, x.count(i), none[i]);
        }
        is("minute", x.now(0), 0);
        is("room for a machine", x.machine(3, 0, 0, 5000, 0), 0);
        is("no such machine", x.batch(0, 1, 9, 1), HotHall.BAD);
        is("room for a work", x.batch(0, 1, 9, 0), 0);
        is("room for a character", x.write('1'), 1);
        x.minutes(1);
        is("worked", x.now(1), 1);
        x.from(1);
        is("full", x.machine(3, 0, 0, 5000, 0), HotHall.FULL);
        is("full", x.batch(0, 1, 10, 0), HotHall.FULL);
        is("gone", x.batch(0, 1, 9, 0), HotHall.BAD);
        is("full", x.write('1'), HotHall.FULL);
        is("60 told", x.count(6), 60);
    }

    // ---- count, digest

    /** Promise 36, each from 0 to its most. */
    private static void countEach() {
        DUE.part("36 count");
        HotHall x = Halls.full();
        Halls.go(x, 400);
        int[] most = {10, 16, x.count(2), 16 - x.count(2), 60, 40, 60};
        for (int i = 0; i < 7; i++) {
            is("count " + i, x.count(i), most[i]);
        }
        x = Halls.row(10);
        for (int w = 0; w < 16; w++) {
            x.batch(0, 3, 1, -1);
        }
        x.minutes(1);
        is("10 kept", x.count(2), 10);
        is("none broken", x.count(3), 0);
        x.minutes(1);
        is("16 kept", x.count(2), 16);
        x = Halls.still();
        for (int w = 0; w < 16; w++) {
            x.batch(0, 3, 0, -1);
        }
        is("16 break", x.minutes(1), 16);
        is("16 broken", x.count(3), 16);
        is("none kept", x.count(2), 0);
        is("what", x.count(7), HotHall.BAD);
        is("what", x.count(-1), HotHall.BAD);
    }

    /** Promise 37: "h = 359; then h = 31 h + v": 7 and 8 and 24 and 8 and 1 values of 0. */
    private static void digestOfNew() {
        DUE.part("37 of a new object");
        HotHall x = new HotHall();
        is("digest", x.digest(), 359 * times31(48));
        x.odds(0, 0, 1);
        is("the lot is the last", x.digest(), 359 * times31(48) + 1);
        x.odds(0, 0, -1);
        is("the lot is an int", x.digest(), 359 * times31(48) - 1);
        x.odds(0, 0, Halls.LEAST);
        is("the least", x.digest(), 359 * times31(48) + Integer.MIN_VALUE);
        x.odds(0, 0, 0);
        x.heat(11, 1);
        is("HEAT, then GAUGE, of the last cell; the sum is now(6)",
            x.digest(), 359 * times31(48) + times31(8 + 2) + times31(1 + 8 + 24 + 1));
        x.late(0);
        is("the gauge shows it, too", x.digest(),
            359 * times31(48) + times31(8 + 2) + times31(8 + 1) + times31(1 + 8 + 24 + 1));
    }

    private static void digestOfAll() {
        DUE.part("37 of all");
        HotHall[] halls = {new HotHall(), Halls.busy(), Halls.full(), Halls.row(10)};
        for (HotHall x : halls) {
            x.image(0);
            long lot = Halls.lot(x);
            long h = 359;
            for (int i = 0; i <= 6; i++) {
                h = 31 * h + x.count(i);
            }
            for (int i = 0; i <= 7; i++) {
                h = 31 * h + x.now(i);
            }
            for (int i = 0; i < 12; i++) {
                h = 31 * h + x.cell(i, 0);
                h = 31 * h + x.cell(i, 1);
            }
            for (int i = 0; i < x.count(0); i++) {
                for (int what = 0; what <= 4; what++) {
                    h = 31 * h + x.of(i, what);
                }
            }
            for (int i = 0; i < x.count(1); i++) {
                for (int what = 0; what <= 4; what++) {
                    h = 31 * h + x.work(i, what);
                }
            }
            for (int i = 0; i < 8; i++) {
                h = 31 * h + x.bill(i);
            }
            is("digest", x.digest(), 31 * h + lot);
        }
    }

    /** Longs wrap: a machine's five values move all ahead of them on by 31 to the fifth. */
    private static void digestWraps() {
        DUE.part("37 wraps");
        HotHall x = new HotHall();
        x.machine(6, 0, 0, 1, 0);
        long machine = times31(9) * (-1 * times31(4) + 6);
        is("one machine", x.digest(), 359 * times31(53) + times31(52) + machine);
        x.house(3, 0, 9, 9);
        is("ranks, fees are not in it", x.digest(), 359 * times31(53) + times31(52) + machine);
    }
}
