/** Each promise by hand. The numbers in the comments say how what is due comes about. */
public final class PromisesTest {
    private static final Due DUE = new Due();

    public static void main(String[] args) {
        newObject();
        room();
        heat();
        cooler();
        machine();
        feed();
        net();
        price();
        store();
        late();
        odds();
        house();
        batch();
        steady();
        write();
        erase();
        fault();
        rulesWorked();
        minutes();
        cell();
        of();
        work();
        causes();
        fullHall();
        now();
        placing();
        without();
        other();
        fitted();
        drill();
        worst();
        bill();
        begin();
        record();
        forge();
        check();
        image();
        from();
        count();
        digest();
        DUE.end();
    }

    private static void is(String call, long got, long want) {
        DUE.is(call, got, want);
    }

    private static long first(int values) {
        long h = 359;
        for (int i = 0; i < values; i++) {
            h *= 31;
        }
        return h;
    }

    private static void newObject() {
        DUE.part("1 a new object");
        HotHall x = new HotHall();
        is("NONE", HotHall.NONE, -1);
        is("BAD", HotHall.BAD, -2);
        is("NO", HotHall.NO, -3);
        is("FULL", HotHall.FULL, -4);
        is("digest", x.digest(), first(7 + 8 + 24 + 8 + 1));
        for (int i = 0; i < 8; i++) {
            is("now " + i, x.now(i), 0);
        }
        is("fault", x.fault(), 1);
        is("net", x.net(5), 100000);
        is("late", x.late(1), 1);
        for (int i = 0; i < 24; i++) {
            is("price", x.price(i, 10), 10);
        }
        for (int i = 0; i < 4; i++) {
            is("feed", x.feed(i, 10000), 10000);
        }
        is("minutes", x.minutes(1), 0);
        for (int i = 0; i < 12; i++) {
            is("2 come through walls", x.cell(i, 0), 2);
        }
        x.heat(0, 1000);
        x.minutes(1);
        is("of 1000 go 18 through walls, 99 twice through air", x.cell(0, 0), 1000 - 18 - 2 * 99);
        is("aims are 200, but coolers take nothing", x.cell(1, 0), 2 + 1 + 99);
    }

    private static void room() {
        DUE.part("2 room");
        HotHall x = new HotHall();
        is("most", x.room(500, 500, 200), 1);
        is("least", x.room(0, 0, 0), 1);
        int[][] wrong = {{-1, 0, 0}, {501, 0, 0}, {0, -1, 0}, {0, 501, 0}, {0, 0, -1}, {0, 0, 201}, {Halls.MOST, 0, 0},
            {0, Halls.LEAST, 0}, {0, 0, Halls.MOST}};
        x.room(300, 500, 0);
        for (int[] w : wrong) {
            is("wrong", x.room(w[0], w[1], w[2]), HotHall.BAD);
        }
        x.minutes(1);
        is("half of 300 comes", x.cell(7, 0), 150);
        x = new HotHall();
        x.room(100, 0, 100);
        x.heat(3, 1000);
        x.minutes(1);
        is("a corner has two beside it", x.cell(3, 0), 800);
        is("in its row", x.cell(2, 0), 100);
        is("under it", x.cell(7, 0), 100);
        is("not the next row's first", x.cell(4, 0), 0);
        is("not aslant", x.cell(6, 0), 0);
        x = new HotHall();
        x.room(100, 0, 150);
        x.heat(5, 1009);
        x.minutes(1);
        is("cut, to four", x.cell(5, 0), 1009 - 4 * 151);
        is("over it", x.cell(1, 0), 151);
        x = new HotHall();
        x.room(0, 500, 200);
        x.heat(5, 1000);
        x.minutes(1);
        is("below 0", x.cell(5, 0), 1000 - 500 - 800);
    }

    private static void heat() {
        DUE.part("3 heat");
        HotHall x = new HotHall();
        is("was 0", x.heat(0, 5), 0);
        is("was 5", x.heat(0, 100000), 5);
        is("least", x.heat(0, 0), 100000);
        is("last", x.heat(11, 7), 0);
        is("no cell", x.heat(12, 7), Halls.BAD_HEAT);
        is("no cell", x.heat(-1, 7), Halls.BAD_HEAT);
        is("too hot", x.heat(11, 100001), Halls.BAD_HEAT);
        is("too cold", x.heat(11, -1), Halls.BAD_HEAT);
        is("as it was", x.cell(11, 0), 7);
        x = Halls.still();
        for (int i = 0; i < 10; i++) {
            x.machine(i, 500, 0, 5000, 0);
            x.steady(0, 0, 9999, 3, i);
        }
        for (int i = 0; i < 120; i++) {
            x.minutes(60);
        }
        is("one machine a cell, slow above the limit", x.cell(9, 0), 500 * 7200 + 1000 * 5);
    }

    private static void cooler() {
        DUE.part("4 cooler");
        HotHall x = Halls.still();
        x.heat(2, 300);
        x.heat(3, 150);
        x.heat(4, 100000);
        is("cooler", x.cooler(2, 30, 240), 1);
        is("cooler", x.cooler(3, 30, 200), 1);
        is("least", x.cooler(4, 0, 0), 1);
        is("most", x.cooler(4, 10000, 5000), 1);
        int[][] wrong = {{12, 0, 0}, {-1, 0, 0}, {2, -1, 0}, {2, 10001, 0}, {2, 0, -1}, {2, 0, 5001}};
        for (int[] w : wrong) {
            is("wrong", x.cooler(w[0], w[1], w[2]), HotHall.BAD);
        }
        x.minutes(1);
        is("as much as it takes", x.cell(2, 0), 270);
        is("nothing below its aim", x.cell(3, 0), 150);
        is("most", x.cell(4, 0), 90000);
        x.minutes(2);
        is("no more than to its aim", x.cell(2, 0), 240);
        x.cooler(3, 10000, 0);
        x.minutes(1);
        is("to 0", x.cell(3, 0), 0);
    }

    private static void machine() {
        DUE.part("5 machine");
        HotHall x = new HotHall();
        int[][] wrong = {{-1, 0, 0, 1, 0}, {12, 0, 0, 1, 0}, {0, -1, 0, 1, 0}, {0, 501, 0, 1, 0}, {0, 0, -1, 1, 0},
            {0, 0, 501, 1, 0}, {0, 0, 0, 0, 0}, {0, 0, 0, 5001, 0}, {0, 0, 0, 1, -1}, {0, 0, 0, 1, 4}};
        for (int[] w : wrong) {
            is("wrong", x.machine(w[0], w[1], w[2], w[3], w[4]), HotHall.BAD);
        }
        is("least", x.machine(0, 0, 0, 1, 0), 0);
        is("most", x.machine(11, 500, 500, 5000, 3), 1);
        for (int i = 2; i < 10; i++) {
            is("machine", x.machine(1, 1, 1, 1, 1), i);
        }
        is("ten are there", x.machine(1, 1, 1, 1, 1), HotHall.FULL);
        is("wrong ahead of full", x.machine(1, 1, 1, 1, 4), HotHall.BAD);
        is("count", x.count(0), 10);
        is("cell", x.of(1, 4), 11);
        x = Halls.still();
        x.machine(6, 7, 11, 5000, 0);
        x.batch(0, 9, 9, 0);
        x.minutes(1);
        is("3 times its heat", x.cell(6, 0), 21);
        is("3 times its power", x.now(3), 33);
        is("3 of a work", x.work(0, 1), 3);
    }

    private static void feed() {
        DUE.part("6 feed");
        HotHall x = Halls.still();
        is("was", x.feed(0, 59), 10000);
        is("was", x.feed(0, 30), 59);
        is("least", x.feed(3, 0), 10000);
        is("most", x.feed(3, 10000), 0);
        int[][] wrong = {{4, 0}, {-1, 0}, {0, -1}, {0, 10001}};
        for (int[] w : wrong) {
            is("wrong", x.feed(w[0], w[1]), HotHall.BAD);
        }
        x.machine(0, 0, 10, 5000, 0);
        x.machine(1, 0, 10, 5000, 0);
        x.machine(2, 0, 10, 5000, 1);
        x.machine(3, 0, 0, 5000, 0);
        for (int i = 0; i < 4; i++) {
            x.batch(0, 100, 50, i);
        }
        x.minutes(1);
        is("30 is not more than 30", x.of(0, 1), 3);
        is("the greatest of those that draw trips", x.of(1, 1), 0);
        is("two minutes yet", x.of(1, 2), 2);
        is("another feed", x.of(2, 1), 3);
        is("draws nothing", x.of(3, 1), 3);
        is("cause feed", x.work(1, 2), 3);
        is("drawn", x.now(3), 60);
        x.minutes(1);
        is("one minute yet", x.of(1, 2), 1);
        is("has no work", x.of(1, 0), HotHall.NONE);
        is("cause no room", x.work(1, 2), 1);
        x.minutes(1);
        is("none yet", x.of(1, 2), 0);
        is("no work in the third", x.of(1, 0), HotHall.NONE);
        x.minutes(1);
        is("trips again", x.of(1, 2), 2);
        x.feed(0, 29);
        x.minutes(1);
        is("the last one trips too", x.of(0, 2), 2);
        x = Halls.still();
        x.machine(0, 0, 1, 5000, 0);
        x.steady(0, 0, 9, 1, 0);
        x.feed(0, 0);
        x.minutes(1);
        is("1 is more than 0", x.of(0, 2), 2);
    }

    /** Machines of power 10 in cells 0, 1, 2, a batch pinned to each; works by the order 2, 0, 1. */
    private static HotHall three() {
        HotHall x = Halls.still();
        x.house(0, 5, 0, 0);
        x.house(1, 4, 0, 0);
        for (int i = 0; i < 3; i++) {
            x.machine(i, 0, 10, 5000, i);
        }
        x.batch(0, 100, 50, 0);
        x.batch(0, 100, 50, 1);
        x.batch(1, 100, 50, 2);
        return x;
    }

    private static void net() {
        DUE.part("7 net");
        HotHall x = three();
        is("was", x.net(0), 100000);
        is("was", x.net(100000), 0);
        is("too much", x.net(100001), HotHall.BAD);
        is("too little", x.net(-1), HotHall.BAD);
        is("was", x.net(89), 100000);
        x.minutes(1);
        is("the last by the order is shed", x.of(1, 1), 0);
        is("its work is its own", x.of(1, 0), 1);
        is("no machine ran it", x.work(1, 4), HotHall.NONE);
        is("cause power", x.work(1, 2), 4);
        is("drawn", x.now(3), 60);
        is("not tripped", x.of(1, 2), 0);
        x.net(59);
        x.minutes(1);
        is("then the one ahead of it", x.of(0, 1), 0);
        is("the first runs", x.of(2, 1), 3);
        x.net(0);
        x.minutes(1);
        is("none runs", x.now(3), 0);
        x.net(90);
        x.minutes(1);
        is("all run", x.now(3), 90);
    }

    private static void price() {
        DUE.part("8 price");
        HotHall x = three();
        is("was", x.price(0, 7), 10);
        is("was", x.price(0, 1000), 7);
        is("was", x.price(0, 3), 1000);
        is("was", x.price(23, 0), 10);
        int[][] wrong = {{24, 0}, {-1, 0}, {0, -1}, {0, 1001}};
        for (int[] w : wrong) {
            is("wrong", x.price(w[0], w[1]), HotHall.BAD);
        }
        x.minutes(1);
        is("3 times 90", x.now(7), 270);
        x.minutes(1);
        is("10 times 90", x.now(7), 1170);
        x.minutes(21);
        long coin = x.now(7);
        x.minutes(1);
        is("minute 23 costs nothing", x.now(7), coin);
        is("minute 24", x.now(0), 24);
        x.minutes(1);
        is("minute 24 is as 0", x.now(7), coin + 270);
    }

    private static void store() {
        DUE.part("9 store");
        HotHall x = three();
        is("least", x.store(0, 0, 0), 1);
        is("most", x.store(100000, 10000, 1000), 1);
        is("store", x.store(100, 40, 50), 1);
        int[][] wrong = {{-1, 0, 0}, {100001, 0, 0}, {0, -1, 0}, {0, 10001, 0}, {0, 0, -1}, {0, 0, 1001}};
        for (int[] w : wrong) {
            is("wrong", x.store(w[0], w[1], w[2]), HotHall.BAD);
        }
        x.minutes(1);
        is("takes its rate", x.now(2), 40);
        is("the net gave 90 and 40", x.now(7), 1300);
        x.minutes(2);
        is("no more than its room", x.now(2), 100);
        is("the net gave 90 and 40, 90 and 20", x.now(7), 1300 + 1300 + 1100);
        is("more is in it", x.store(99, 40, 50), HotHall.NO);
        is("wrong ahead of that", x.store(99, 40, 1001), HotHall.BAD);
        is("as much is in it", x.store(100, 40, 10), 1);
        x.minutes(1);
        is("gives its rate at a price that is high", x.now(2), 60);
        is("the rest is paid", x.now(7), 3700 + 500);
        x.minutes(1);
        x.minutes(1);
        is("gives what it has", x.now(2), 0);
        is("of 90 it gave 40, then 20", x.now(7), 4200 + 500 + 700);
        x = three();
        x.store(100, 40, 11);
        x.minutes(3);
        x.net(60);
        x.minutes(1);
        is("at a low price it gives what the net has not", x.now(2), 70);
        is("all run", x.now(3), 90);
        x.net(49);
        x.minutes(1);
        is("49 and 40 is not enough: the net has 49, 11 are lacking", x.now(2), 59);
        is("two run", x.now(3), 60);
        x.net(65);
        x.store(100, 4, 11);
        x.minutes(1);
        is("65 and 4: two run, it takes 4", x.now(2), 63);
        x = three();
        x.store(100000, 10000, 1000);
        x.net(100);
        x.minutes(1);
        is("takes what the net has left", x.now(2), 10);
    }

    private static void late() {
        DUE.part("10 late");
        HotHall x = Halls.still();
        is("was", x.late(5), 1);
        is("was", x.late(0), 5);
        is("wrong", x.late(-1), HotHall.BAD);
        is("wrong", x.late(6), HotHall.BAD);
        for (int i = 1; i <= 7; i++) {
            x.heat(0, 100 * i);
            x.minutes(1);
        }
        x.heat(0, 5);
        is("now", x.cell(0, 1), 5);
        for (int d = 1; d <= 5; d++) {
            x.late(d);
            is("gauge at " + d, x.cell(0, 1), 100 * (8 - d));
        }
        x = Halls.still();
        x.heat(0, 100);
        x.minutes(2);
        x.late(2);
        is("as the first minute began", x.cell(0, 1), 100);
        x.late(3);
        is("there was none", x.cell(0, 1), 0);
        x = Halls.still();
        x.machine(0, 0, 1, 150, 0);
        x.batch(0, 900, 99, 0);
        x.late(2);
        x.heat(0, 151);
        x.minutes(2);
        is("the gauge doesn't show it yet", x.of(0, 1), 3);
        x.minutes(1);
        is("now it does", x.of(0, 1), 1);
        is("slow", x.work(0, 2), 6);
        x.heat(0, 150);
        x.minutes(2);
        is("still", x.of(0, 1), 1);
        x.minutes(1);
        is("150 is not above", x.of(0, 1), 3);
    }

    private static void odds() {
        DUE.part("11 odds");
        HotHall x = new HotHall();
        is("least", x.odds(0, 0, Halls.LEAST), 1);
        is("most", x.odds(100, 100, Halls.MOST), 1);
        int[][] wrong = {{-1, 0}, {101, 0}, {0, -1}, {0, 101}};
        for (int[] w : wrong) {
            is("wrong", x.odds(w[0], w[1], 5), HotHall.BAD);
        }
        // 7 1103515245 and 12345 is 3429651764, wrapped; by 65536 52332; 332 is left over by 1000
        int[][] rows = {{100, 0, 399, 0}, {32, 100, 300, 0}, {33, 100, 300, 1}, {33, 100, 299, 0}, {100, 100, 232, 0},
            {100, 77, 399, 0}, {100, 78, 300, 1}};
        for (int[] row : rows) {
            x = Halls.still();
            x.machine(0, 0, 1, 5000, 0);
            x.batch(0, 900, 99, 0);
            x.heat(0, row[2]);
            x.odds(row[0], row[1], 7);
            x.minutes(1);
            is("fails", x.of(0, 3), row[3]);
            is("speed at the end of (e)", x.of(0, 1), 3);
            is("done", x.work(0, 1), row[3] == 1 ? 0 : 3);
            is("cause", x.work(0, 2), row[3] == 1 ? 5 : 0);
            is("ran", x.work(0, 4), 0);
            x.odds(0, 0, 7);
            x.minutes(1);
            is("for good", x.work(0, 1), row[3] == 1 ? 0 : 6);
            is("cause", x.work(0, 2), row[3] == 1 ? 1 : 0);
        }
        x = Halls.still();
        x.machine(0, 0, 0, 5000, 0);
        x.heat(0, 90000);
        x.odds(100, 100, 7);
        x.steady(0, 0, 5, 1, -1);
        x.minutes(1);
        is("fails at speed 1", x.of(0, 3), 1);
        x = Halls.still();
        x.machine(0, 0, 0, 5000, 0);
        x.odds(0, 0, 7);
        x.minutes(1);
        is("no lot without a run", Halls.lot(x), 7);
        x.batch(0, 3, 9, -1);
        x.minutes(3);
        is("one run, one lot, whatever the odds", Halls.lot(x), (int) 3429651764L);
    }

    private static void house() {
        DUE.part("12 house");
        HotHall x = Halls.still();
        is("least", x.house(0, 0, 0, 0), 1);
        is("most", x.house(7, 99, 1000, 1000), 1);
        int[][] wrong = {{-1, 0, 0, 0}, {8, 0, 0, 0}, {0, -1, 0, 0}, {0, 100, 0, 0}, {0, 0, -1, 0}, {0, 0, 1001, 0},
            {0, 0, 0, -1}, {0, 0, 0, 1001}};
        for (int[] w : wrong) {
            is("wrong", x.house(w[0], w[1], w[2], w[3]), HotHall.BAD);
        }
        x.machine(0, 0, 0, 5000, 0);
        x.batch(7, 900, 99, -1);
        x.batch(2, 900, 99, -1);
        x.batch(1, 900, 99, -1);
        x.batch(1, 900, 99, -1);
        x.minutes(1);
        is("of like ranks the first house, of its works the first", x.of(0, 0), 2);
        x.house(1, 1, 0, 0);
        x.minutes(1);
        is("the least rank", x.of(0, 0), 1);
        x.house(2, 99, 0, 0);
        x.house(1, 98, 0, 0);
        x.minutes(1);
        is("then", x.of(0, 0), 2);
        x.house(7, 97, 0, 0);
        x.minutes(1);
        is("then", x.of(0, 0), 0);
    }

    private static void batch() {
        DUE.part("13 batch");
        HotHall x = Halls.still();
        x.machine(0, 0, 0, 5000, 0);
        x.minutes(5);
        int[][] wrong = {{-1, 1, 9, -1}, {8, 1, 9, -1}, {0, 0, 9, -1}, {0, 1001, 9, -1}, {0, 1, 4, -1},
            {0, 1, 10000, -1}, {0, 1, 9, -2}, {0, 1, 9, 1}};
        for (int[] w : wrong) {
            is("wrong", x.batch(w[0], w[1], w[2], w[3]), HotHall.BAD);
        }
        is("no earlier than now", x.batch(0, 4, 5, 0), 0);
        is("most", x.batch(7, 1000, 9999, -1), 1);
        is("done in its minute, too", x.batch(7, 3, 6, 0), 2);
        is("open", x.work(0, 0), 1);
        is("one broke", x.minutes(1), 1);
        is("3 of 4", x.work(0, 1), 3);
        is("broken", x.work(0, 0), 3);
        is("it was always done at speed 3", x.work(0, 2), 0);
        is("not over yet", x.work(2, 0), 1);
        x.house(7, 0, 0, 0);
        is("work 1 is ahead", x.minutes(1), 1);
        is("broken", x.work(2, 0), 3);
        is("cause no room", x.work(2, 2), 1);
        for (int i = 3; i < 16; i++) {
            is("batch", x.batch(0, 1, 99, -1), i);
        }
        is("16 are there", x.batch(0, 1, 99, -1), HotHall.FULL);
        is("of steady ones, too", x.steady(0, 7, 9, 1, -1), HotHall.FULL);
        is("wrong ahead of full", x.batch(0, 0, 99, -1), HotHall.BAD);
        x = Halls.still();
        x.machine(0, 0, 0, 5000, 0);
        x.batch(0, 7, 2, -1);
        is("kept", x.minutes(3), 0);
        is("kept in the last minute", x.work(0, 0), 2);
        is("its sum grows by its speed", x.work(0, 1), 9);
    }

    private static void steady() {
        DUE.part("14 steady");
        HotHall x = Halls.still();
        x.machine(0, 0, 0, 5000, 0);
        x.minutes(2);
        int[][] wrong = {{-1, 2, 3, 1, -1}, {8, 2, 3, 1, -1}, {0, 1, 3, 1, -1}, {0, 4, 3, 1, -1}, {0, 2, 10000, 1, -1},
            {0, 10000, 10000, 1, -1}, {0, 2, 3, 0, -1}, {0, 2, 3, 4, -1}, {0, 2, 3, 1, -2}, {0, 2, 3, 1, 1}};
        for (int[] w : wrong) {
            is("wrong", x.steady(w[0], w[1], w[2], w[3], w[4]), HotHall.BAD);
        }
        is("one minute", x.steady(0, 3, 3, 2, 0), 0);
        is("the last", x.steady(0, 9999, 9999, 1, 0), 1);
        is("from now", x.steady(7, 2, 4, 1, -1), 2);
        is("not yet open", x.work(0, 0), 0);
        is("open", x.work(2, 0), 1);
        x.minutes(1);
        is("at no more than it wants", x.of(0, 1), 1);
        is("open", x.work(0, 0), 1);
        is("done in one minute", x.work(2, 1), 1);
        x.minutes(1);
        is("kept", x.work(0, 0), 2);
        is("done in one minute", x.work(0, 1), 1);
        is("at no more than it wants", x.of(0, 1), 2);
        is("breaks when its minutes are over", x.work(2, 0), 1);
        is("cause", x.work(2, 2), 1);
        is("one broke", x.minutes(1), 1);
        is("broken", x.work(2, 0), 3);
        is("done in two", x.work(2, 1), 2);
        is("its cause is that of the first", x.work(2, 2), 1);
    }

    private static void write() {
        DUE.part("15 write");
        HotHall x = new HotHall();
        is("wrong", x.write(-1), HotHall.BAD);
        is("wrong", x.write(128), HotHall.BAD);
        is("least", x.write(0), 1);
        is("most", x.write(127), 2);
        for (int i = 3; i <= 60; i++) {
            is("write", x.write(' '), i);
        }
        is("60 are there", x.write(' '), HotHall.FULL);
        is("wrong ahead of full", x.write(200), HotHall.BAD);
        is("count", x.count(4), 60);
    }

    private static void erase() {
        DUE.part("16 erase");
        HotHall x = new HotHall();
        is("none", x.erase(), 0);
        Halls.put(x, "1+1");
        is("no fault", x.fault(), -1);
        is("3", x.erase(), 3);
        is("count", x.count(4), 0);
        is("empty", x.fault(), 1);
        is("again", x.erase(), 0);
        x.minutes(1);
        is("without rules 3", x.now(1), 3);
    }

    private static void fault() {
        DUE.part("17 fault");
        String[] texts = {"", "1", "123456", "1234567", " 1234567", "1+1234567", "12345 6", "  ", "1 +", "+1", "-1",
            "!1", "1!", "--!-1", "(", "()", "(1", "(1)", "1)", "(1))", "1<2<3", "1<2>3", "1=2=3", "1<2&3<4|5<6",
            "1<(2<3)", "(1<2)<3", "(1<2)=(3<4)=1", "((((((((1))))))))", "(((((((((1)))))))))", "(((((((((",
            "((((((((1))))))))+(1)", "x", "gpw", "g p", "g+p+s+w+m+f", "1||2", "1|&2", "1&", "1*/2", "1*-2", "1*!2",
            "1+ -2", "1-!2", "(1)(2)", "(1)2", "2(1)", "G", "1<", "1<|", "1\t", "1 (", "1<2=", "1+2*3-4/5",
            "((1<2))<((3", "!", "-", "! ", "~1", "1~1", "1#"};
        int[] due = {1, -1, -1, 2, 12, 22, 61, 21, 31, 1, -1,
            -1, 11, -1, 11, 11, 21, -1, 11, 31, 31, 31, 31, -1,
            -1, -1, 111, -1, 83, 83,
            -1, 1, 11, 21, -1, 21, 21, 21, 21, -1, -1,
            -1, -1, 31, 31, 11, 1, 21, 21, 11, 21, 31, -1,
            111, 11, 11, 21, 1, 11, 11};
        for (int i = 0; i < texts.length; i++) {
            HotHall x = new HotHall();
            Halls.put(x, texts[i]);
            is("fault of '" + texts[i] + "'", x.fault(), due[i]);
            x.minutes(1);
            if (due[i] != -1) {
                is("speed with a fault, '" + texts[i] + "'", x.now(1), 3);
            }
        }
    }

    private static void rulesWorked() {
        DUE.part("rules");
        String[] texts = {"0", "1", "2", "3", "4", "999999", "-1", "- -2", "!0", "!1", "!7", "!!7", "5-3", "5-3-1",
            "2*1-0", "1+1*2", "(1+1)*1", "7/3", "-7/3+4", "7/0", "7/0+2", "1<2", "2<1", "1>2", "2>1", "2=2", "2=1",
            "2&2", "2&0", "0|0", "0|5", "1|0&0", "(1|0)&0", "2|2+1", "1<2+1", "1+1<2", "2=1+1", "!1+2", "!(1+2)+2",
            "-2*-1", "2-1=1", "3&2=2", "12/2/3", "12/(4/2)/3", "8-2*3", "1 +  1", " ( 2 ) ",
            "999999*999999*999999*999999>0", "!w+!s+!m", "3-f-f", "p/5", "p=10", "1&1&1&0|2", "-3+5", "1&1", "2>2", "2<2"};
        int[] due = {0, 1, 2, 3, 3, 3, 0, 2, 1, 0, 0, 1, 2, 1,
            2, 3, 2, 2, 2, 0, 2, 1, 0, 0, 1, 1, 0,
            1, 0, 0, 1, 1, 0, 1, 1, 0, 1, 2, 2,
            2, 1, 1, 2, 2, 2, 2, 2,
            999999L * 999999L * 999999L * 999999L > 0 ? 1 : 0, 3, 3, 2, 1, 1, 2, 1, 0, 0};
        for (int i = 0; i < texts.length; i++) {
            HotHall x = new HotHall();
            Halls.put(x, texts[i]);
            is("fault of '" + texts[i] + "'", x.fault(), -1);
            x.minutes(1);
            is("speed by '" + texts[i] + "'", x.now(1), due[i]);
        }
        HotHall x = Halls.still();
        x.heat(11, 500);
        x.heat(0, 900);
        Halls.put(x, "(g=0)+(g=900)*2");
        x.minutes(1);
        is("the gauge is late", x.now(1), 1);
        x.minutes(1);
        is("the greatest gauge", x.now(1), 2);
        x.price(2, 77);
        Halls.put(x, "(p=77)*2+(m=2)");
        x.minutes(1);
        is("price and minute", x.now(1), 3);
        x.store(100, 40, 50);
        x.minutes(1);
        Halls.put(x, "(s=40)*3");
        x.minutes(1);
        is("what is in the store as the minute begins", x.now(1), 3);
        x.batch(0, 9, 99, -1);
        x.steady(0, 6, 6, 1, -1);
        Halls.put(x, "w");
        x.minutes(1);
        is("one is open", x.now(1), 1);
        x.minutes(1);
        is("two are open", x.now(1), 2);
        for (int i = 0; i < 12; i++) {
            x = Halls.still();
            x.late(0);
            x.heat(i, 9);
            Halls.put(x, "(g=9)*2");
            x.minutes(1);
            is("gauge of cell " + i, x.now(1), 2);
        }
        x = Halls.still();
        x.machine(0, 0, 0, 5000, 0);
        x.heat(0, 90000);
        x.odds(100, 100, 7);
        x.batch(0, 9, 99, -1);
        Halls.put(x, "1+2*f");
        x.minutes(1);
        is("none failed", x.now(1), 1);
        x.minutes(1);
        is("one failed", x.now(1), 3);
        Halls.put(x, "-1+1*1+1*1+1*1+1*1+1*1+1*1+1*1+1*1+1*1+1*1+1*1+1*1+1*1+1*1-11");
        is("60 characters at most", x.count(4), 60);
        is("the last that is taken is a 1", x.fault(), -1);
        Halls.put(x, "0+(0+(0+(0+(0+(0+(0+(0+(1+1*1))))))))+0");
        x.minutes(1);
        is("eight deep", x.now(1), 2);
        Halls.put(x, "------------------------------------------------------------");
        is("a unit is lacking", x.fault(), 601);
        Halls.put(x, "-----------------------------------------------------------1");
        is("59 minuses", x.fault(), -1);
        x.minutes(1);
        is("below 0", x.now(1), 0);
    }

    private static void minutes() {
        DUE.part("18 minutes");
        HotHall x = Halls.still();
        is("wrong", x.minutes(0), HotHall.BAD);
        is("wrong", x.minutes(61), HotHall.BAD);
        is("wrong", x.minutes(Halls.LEAST), HotHall.BAD);
        x.batch(0, 1, 0, -1);
        x.batch(0, 1, 58, -1);
        x.batch(0, 1, 59, -1);
        x.batch(0, 1, 60, -1);
        is("three break within 60", x.minutes(60), 3);
        is("minute", x.now(0), 60);
        for (int i = 0; i < 165; i++) {
            x.minutes(60);
        }
        is("minute", x.now(0), 9960);
        is("beyond", x.minutes(40), HotHall.BAD);
        is("not beyond", x.minutes(39), 0);
        is("minute", x.now(0), 9999);
        is("beyond", x.minutes(1), HotHall.BAD);
        is("to the last", x.batch(0, 1, 9999, -1), 4);
        is("foretold goes beyond", x.without(1), 16);
    }

    private static void cell() {
        DUE.part("19 cell");
        HotHall x = Halls.still();
        x.heat(11, 44);
        is("heat", x.cell(11, 0), 44);
        is("gauge", x.cell(11, 1), 0);
        x.minutes(1);
        is("gauge", x.cell(11, 1), 44);
        is("wrong", x.cell(12, 0), Halls.BAD_HEAT);
        is("wrong", x.cell(-1, 0), Halls.BAD_HEAT);
        is("wrong", x.cell(0, 2), Halls.BAD_HEAT);
        is("wrong", x.cell(0, -1), Halls.BAD_HEAT);
    }

    private static void of() {
        DUE.part("20 of");
        HotHall x = Halls.still();
        is("none is there", x.of(0, 0), HotHall.BAD);
        x.machine(9, 0, 0, 5000, 0);
        x.machine(3, 0, 0, 5000, 0);
        is("no work", x.of(0, 0), HotHall.NONE);
        is("no speed", x.of(0, 1), 0);
        is("not tripped", x.of(0, 2), 0);
        is("not failed", x.of(0, 3), 0);
        is("cell", x.of(0, 4), 9);
        x.batch(0, 3, 9, -1);
        x.minutes(1);
        is("its work, though it is over", x.of(0, 0), 0);
        is("speed", x.of(0, 1), 3);
        is("the other has none", x.of(1, 0), HotHall.NONE);
        x.minutes(1);
        is("none in the last minute", x.of(0, 0), HotHall.NONE);
        is("none in the last minute", x.of(0, 1), 0);
        int[][] wrong = {{2, 0}, {-1, 0}, {0, 5}, {0, -1}, {Halls.MOST, 0}, {Halls.LEAST, 0}};
        for (int[] w : wrong) {
            is("wrong", x.of(w[0], w[1]), HotHall.BAD);
        }
        x = Halls.still();
        x.machine(0, 0, 0, 5000, 0);
        x.machine(1, 0, 0, 5000, 0);
        x.machine(2, 0, 0, 5000, 0);
        x.late(0);
        x.heat(0, 50);
        x.heat(1, 40);
        x.heat(2, 40);
        x.batch(0, 90, 9, -1);
        x.minutes(1);
        is("of like gauges the least number", x.of(1, 0), 0);
        x.heat(2, 39);
        x.minutes(1);
        is("the least gauge", x.of(2, 0), 0);
        x.batch(0, 90, 9, 2);
        x.house(1, 0, 0, 0);
        x.minutes(1);
        is("a pinned one waits", x.work(1, 4), HotHall.NONE);
        is("cause no room", x.work(1, 2), 1);
    }

    private static void work() {
        DUE.part("21 work");
        HotHall x = Halls.still();
        is("none is there", x.work(0, 0), HotHall.BAD);
        x.machine(9, 0, 0, 5000, 0);
        x.batch(3, 4, 1, -1);
        is("open", x.work(0, 0), 1);
        is("nothing done", x.work(0, 1), 0);
        is("no cause", x.work(0, 2), 0);
        is("house", x.work(0, 3), 3);
        is("no machine", x.work(0, 4), HotHall.NONE);
        x.minutes(1);
        is("machine", x.work(0, 4), 0);
        x.minutes(1);
        is("kept", x.work(0, 0), 2);
        is("machine", x.work(0, 4), 0);
        x.minutes(1);
        is("none in the last minute", x.work(0, 4), HotHall.NONE);
        is("still kept", x.work(0, 0), 2);
        int[][] wrong = {{1, 0}, {-1, 0}, {0, 5}, {0, -1}, {Halls.MOST, 0}, {Halls.LEAST, 0}};
        for (int[] w : wrong) {
            is("wrong", x.work(w[0], w[1]), HotHall.BAD);
        }
    }

    private static void causes() {
        DUE.part("causes");
        HotHall x = Halls.still();
        x.machine(0, 0, 0, 5000, 0);
        x.batch(0, 50, 20, 0);
        Halls.put(x, "2");
        x.minutes(1);
        is("a batch at speed 2 is slow", x.work(0, 2), 6);
        is("but done by 2", x.work(0, 1), 2);
        Halls.put(x, "0");
        x.minutes(1);
        is("by the rules", x.work(0, 2), 2);
        is("its machine has it", x.of(0, 0), 0);
        is("but didn't run it", x.work(0, 4), HotHall.NONE);
        is("no run, nothing told", x.count(6), 1);
        x.erase();
        x.minutes(1);
        is("the last minute in which it was not done at speed 3", x.work(0, 2), 2);
        x = Halls.still();
        x.machine(0, 0, 0, 5000, 0);
        x.steady(0, 0, 5, 2, 0);
        Halls.put(x, "1");
        x.minutes(1);
        is("slow", x.work(0, 2), 6);
        is("not done", x.work(0, 1), 0);
        Halls.put(x, "0");
        x.minutes(1);
        is("that of the first", x.work(0, 2), 6);
        Halls.put(x, "3");
        x.minutes(4);
        is("done in four", x.work(0, 1), 4);
        is("broken", x.work(0, 0), 3);
        // a steady work that wants 1 is done on a machine that is too hot
        x = Halls.still();
        x.machine(0, 0, 0, 10, 0);
        x.late(0);
        x.heat(0, 11);
        x.steady(0, 0, 1, 1, 0);
        x.minutes(2);
        is("kept", x.work(0, 0), 2);
        is("no cause", x.work(0, 2), 0);
    }

    /** Ten machines and 16 works: all rows are full. */
    private static void fullHall() {
        DUE.part("a full hall");
        HotHall x = Halls.still();
        for (int i = 0; i < 10; i++) {
            x.machine(i, 1, 1, 5000, i % 4);
        }
        for (int i = 0; i < 8; i++) {
            x.batch(i, 3, 0, -1);
            x.steady(i, 0, 0, 3, i);
        }
        is("open", x.now(4), 16);
        x.feed(3, 3);
        is("batch i is at machine i; 7 trips with 3 on feed 3; steady ones find theirs taken", x.minutes(1), 9);
        is("drawn", x.now(3), 21);
        is("7 tripped", x.of(7, 2), 2);
        is("kept", x.count(2), 7);
        is("none is open", x.now(4), 0);
        is("nothing is foretold", x.without(30) + x.other(0, 5, 30, 0) + x.other(1, -5, 30, 1), 0);
        x.drill(0, 500, 0, 30);
        is("nothing can break", x.worst(1), 0);
        is("sum of heat", x.now(6), 21);
    }

    private static void now() {
        DUE.part("22 now");
        HotHall x = three();
        x.store(100, 40, 50);
        x.heat(4, 10);
        x.heat(5, 30);
        Halls.put(x, "2");
        x.minutes(1);
        long[] due = {1, 2, 40, 60, 3, 0, 40, 1000};
        for (int i = 0; i < 8; i++) {
            is("now " + i, x.now(i), due[i]);
        }
        is("wrong", x.now(-1), Halls.BAD_LONG);
        is("wrong", x.now(8), Halls.BAD_LONG);
        x.odds(100, 100, 0);
        x.heat(0, 90000);
        x.heat(2, 90000);
        x.minutes(1);
        is("two failed", x.now(5), 2);
    }

    private static void placing() {
        DUE.part("23 placing");
        HotHall x = Halls.still();
        x.late(0);
        is("0 of none", x.placing(-1), 0);
        is("wrong", x.placing(0), Halls.BAD_HEAT);
        is("wrong", x.placing(-2), Halls.BAD_HEAT);
        x.batch(0, 9, 9, -1);
        is("no machine", x.placing(0), HotHall.NONE);
        is("no machine", x.placing(-1), 0);
        x.machine(0, 0, 0, 5000, 0);
        x.machine(1, 0, 0, 5000, 0);
        x.machine(2, 0, 0, 5000, 0);
        x.heat(0, 10);
        x.heat(1, 7);
        x.heat(2, 20);
        is("the coolest", x.placing(0), 1);
        is("sum", x.placing(-1), 7);
        x.batch(0, 9, 9, 1);
        is("as many as can be", x.placing(0), 0);
        is("its own", x.placing(1), 1);
        is("sum", x.placing(-1), 17);
        x.batch(0, 9, 9, 1);
        is("none first: work 1", x.placing(1), HotHall.NONE);
        is("work 2", x.placing(2), 1);
        is("sum", x.placing(-1), 17);
        x.batch(0, 9, 9, -1);
        is("first as a row: work 0", x.placing(0), 0);
        is("work 3", x.placing(3), 2);
        is("sum", x.placing(-1), 37);
        x.batch(0, 9, 9, -1);
        is("none first: work 0", x.placing(0), HotHall.NONE);
        is("none first: work 1", x.placing(1), HotHall.NONE);
        is("work 2 may not: three are to be placed", x.placing(2), 1);
        is("work 3", x.placing(3), 0);
        is("work 4", x.placing(4), 2);
        x.steady(0, 5, 5, 1, -1);
        is("not open", x.placing(5), Halls.BAD_HEAT);
        for (int i = 0; i < 3; i++) {
            x.batch(0, 9, 9, -1);
        }
        is("8 are open", x.placing(-1), 37);
        x.batch(0, 9, 9, -1);
        is("9 are open", x.placing(-1), Halls.NO_PLACING);
        is("9 are open", x.placing(9), Halls.NO_PLACING);
        is("wrong ahead of that", x.placing(10), Halls.BAD_HEAT);
        x = Halls.still();
        x.machine(0, 0, 10, 5000, 0);
        x.machine(1, 0, 10, 5000, 0);
        x.machine(2, 0, 10, 5000, 0);
        x.feed(0, 60);
        x.heat(2, 900);
        x.heat(0, 5);
        x.batch(0, 99, 9, 2);
        x.batch(0, 99, 9, 1);
        x.batch(0, 99, 9, 0);
        x.minutes(1);
        is("2 tripped", x.of(2, 2), 2);
        is("a tripped one has none", x.placing(0), HotHall.NONE);
        is("sum of the gauges, not of the heats", x.placing(-1), 5);
        x.heat(0, 77);
        is("sum of the gauges, not of the heats", x.placing(-1), 5);
        x = Halls.still();
        x.machine(0, 0, 0, 5000, 0);
        x.machine(1, 0, 0, 5000, 0);
        x.batch(0, 99, 9, -1);
        x.batch(0, 99, 9, -1);
        x.odds(100, 100, 5);
        x.heat(0, 90000);
        x.minutes(1);
        is("0 failed", x.of(0, 3), 1);
        x.odds(0, 0, 5);
        is("a failed one has none", x.placing(0), HotHall.NONE);
        is("work 1", x.placing(1), 1);
    }

    private static void without() {
        DUE.part("24 without");
        HotHall x = Halls.still();
        is("wrong", x.without(0), HotHall.BAD);
        is("wrong", x.without(31), HotHall.BAD);
        is("none", x.without(1), 0);
        is("none", x.without(30), 0);
        x.machine(0, 0, 0, 5000, 0);
        x.steady(0, 0, 5, 3, -1);
        x.steady(0, 0, 5, 3, -1);
        is("nothing breaks so soon", x.without(5), 0);
        is("the first is the least number", x.without(6), 1);
        x.batch(0, 9, 2, -1);
        is("two must be left", x.without(6), 3);
        x.steady(0, 2, 2, 3, 0);
        is("with one that is not yet open: 0 and 1 and 2", x.without(6), 7);
        is("within 3 minutes: 2 and 3 break", x.without(3), 7);
        is("nothing is changed", x.now(0), 0);
        x.steady(0, 2, 2, 3, 0);
        is("no such set", x.without(3), HotHall.NONE);
        is("before it breaks", x.without(2), 0);
        for (int i = 0; i < 5; i++) {
            x.batch(0, 9, 900, -1);
        }
        is("8 are open", x.without(2), 0);
        x.batch(0, 9, 900, -1);
        is("9 are open", x.without(2), HotHall.NO);
        is("wrong ahead of that", x.without(0), HotHall.BAD);
        x = Halls.still();
        x.machine(0, 0, 10, 5000, 0);
        x.machine(1, 0, 10, 5000, 1);
        x.steady(0, 0, 5, 3, 0);
        x.steady(0, 0, 5, 3, 1);
        Halls.put(x, "3-w+1");
        is("what is left out isn't counted as open", x.without(9), 1);
    }

    private static void other() {
        DUE.part("25 other");
        HotHall x = Halls.still();
        int[][] wrong = {{-1, 0, 1, 0}, {6, 0, 1, 0}, {0, -100001, 1, 0}, {0, 100001, 1, 0}, {0, 0, 0, 0},
            {0, 0, 31, 0}, {0, 0, 1, -1}, {0, 0, 1, 2}, {5, 12, 1, 0}, {5, -1, 1, 0}, {5, Halls.LEAST, 1, 0}};
        for (int[] w : wrong) {
            is("wrong", x.other(w[0], w[1], w[2], w[3]), Halls.BAD_LONG);
        }
        is("no machine 0", x.other(5, 0, 1, 0), Halls.NO_LONG);
        is("nothing other", x.other(0, 0, 1, 0), 0);
        x.machine(0, 0, 10, 5000, 0);
        x.steady(0, 0, 4, 3, -1);
        x.steady(1, 0, 4, 3, -1);
        is("a machine more: one less breaks", x.other(5, 1, 5, 0), -1);
        is("not within 4", x.other(5, 1, 4, 0), 0);
        is("30 more a minute at 10", x.other(5, 1, 4, 1), 1200);
        is("a net of 0: one more breaks", x.other(1, -100000, 5, 0), 1);
        is("nothing is paid", x.other(1, -100000, 5, 1), -1500);
        is("a net of 30 is enough", x.other(1, -99970, 5, 0), 0);
        is("one of 29 is not", x.other(1, -99971, 5, 0), 1);
        is("no more than it may be", x.other(1, 100000, 5, 1), 0);
        x.store(1000, 5, 50);
        is("the rate 7 more", x.other(4, 7, 5, 1), 350);
        is("the rate 5 less", x.other(4, -5, 5, 1), -250);
        is("no less than 0", x.other(4, -100000, 5, 1), -250);
        is("nothing is changed", x.now(0), 0);
        for (int i = 1; i < 10; i++) {
            is("nine are there", x.other(5, 0, 1, 0), 0);
            x.machine(1, 0, 0, 5000, 1);
        }
        is("ten are there", x.other(5, 0, 1, 0), Halls.NO_LONG);
        is("wrong ahead of that", x.other(5, 12, 1, 0), Halls.BAD_LONG);
        // a machine that is slow above 100
        x = new HotHall();
        x.room(100, 500, 0);
        x.late(0);
        x.machine(0, 0, 0, 100, 0);
        x.heat(0, 100);
        x.steady(0, 0, 4, 3, 0);
        is("OUTSIDE 10 more: from the second minute on it is too hot", x.other(0, 10, 5, 0), 1);
        is("OUTSIDE 1 more is cut", x.other(0, 1, 5, 0), 0);
        is("no more than 500", x.other(0, 100000, 5, 0), 1);
        x.room(0, 0, 0);
        x.heat(1, 2000);
        is("AIR 1 more: 1 comes", x.other(2, 1, 5, 0), 1);
        is("AIR less is 0", x.other(2, -5, 5, 0), 0);
        x.room(0, 0, 100);
        is("AIR 100 less: nothing comes, the work is kept", x.other(2, -100, 5, 0), -1);
        x = Halls.still();
        x.late(0);
        x.machine(3, 0, 0, 100, 0);
        x.heat(3, 300);
        x.cooler(3, 10000, 200);
        x.steady(0, 1, 4, 3, 0);
        is("each AIM 100 less: the work is kept", x.other(3, -100, 5, 0), -1);
        is("99 less is not enough", x.other(3, -99, 5, 0), 0);
        is("no less than 0", x.other(3, -100000, 5, 0), -1);
        otherMachine();
        for (int i = 0; i < 12; i++) {
            x = Halls.still();
            x.late(0);
            x.machine(i, 0, 0, 100, 0);
            x.heat(i, 300);
            x.cooler(i, 10000, 200);
            x.steady(0, 1, 4, 3, 0);
            is("AIM of cell " + i, x.other(3, -100, 5, 0), -1);
        }
    }

    /** Machine 1 differs from machine 0 in all, and the work is too much for one: only one like 0 helps. */
    private static void otherMachine() {
        HotHall x = Halls.still();
        x.late(0);
        x.machine(0, 40, 10, 100, 2);
        x.machine(1, 500, 500, 1, 1);
        x.feed(1, 0);
        x.feed(2, 60);
        x.steady(0, 0, 2, 3, -1);
        x.steady(0, 0, 2, 3, -1);
        // as it is: 30, then too hot: 10, 10. With the new one: 30 (1 trips), 30 and 10, 10 and 10
        is("all are slow at last", x.other(5, 5, 3, 0), 0);
        is("40 more at 10", x.other(5, 5, 3, 1), 400);
        x.heat(0, 200);
        is("the first is slow, the new one is cooler", x.other(5, 6, 1, 1), 200);
        x = Halls.still();
        x.machine(0, 0, 10, 5000, 0);
        x.odds(100, 100, 7);
        x.heat(0, 90000);
        x.batch(0, 6, 3, -1);
        x.minutes(1);
        is("0 failed", x.of(0, 3), 1);
        x.odds(0, 0, 7);
        is("the new one has not", x.other(5, 5, 4, 0), -1);
    }

    private static void fitted() {
        DUE.part("26 fitted");
        HotHall x = Halls.still();
        is("nothing is told", x.fitted(), HotHall.NONE);
        x.machine(0, 0, 0, 5000, 0);
        x.minutes(3);
        is("nothing ran", x.fitted(), HotHall.NONE);
        x.batch(0, 900, 999, 0);
        x.minutes(1);
        is("one stood", x.fitted(), 100);
        x.odds(100, 100, 7);
        x.heat(0, 300);
        x.minutes(1);
        // told: 0 stood, 3 failed. (1000 - A)(A + 3 B) grows with both
        is("one failed at 300", x.fitted(), 2009);
        x = Halls.still();
        x.machine(0, 0, 0, 5000, 0);
        x.batch(0, 900, 999, 0);
        x.odds(100, 0, lotFor(true));
        x.minutes(1);
        is("failed", x.of(0, 3), 1);
        is("one failed at 0: B is as it may be", x.fitted(), 2000);
        x = Halls.still();
        x.machine(0, 0, 0, 5000, 0);
        x.batch(0, 900, 999, 0);
        x.heat(0, 250);
        x.minutes(59);
        is("59 told", x.count(6), 59);
        is("all stood", x.fitted(), 100);
        x.odds(100, 0, lotFor(true));
        x.minutes(1);
        // p (1000 - p)^59 is greatest at p = 1000 / 60 = 16.67: 16 or 17. 17 983^59 is above 16 984^59 by a little.
        // p = A + 2 B; 17 = 1 + 2 8 comes first by A
        is("one of 60 failed", x.fitted(), 108);
        x = Halls.still();
        x.machine(0, 0, 0, 5000, 0);
        x.machine(1, 0, 0, 5000, 0);
        x.batch(0, 900, 999, 0);
        x.batch(0, 900, 999, 1);
        x.minutes(40);
        is("60 told at most", x.count(6), 60);
        x.odds(100, 100, lotFor(true));
        x.heat(0, 90000);
        x.minutes(1);
        is("what comes later isn't told", x.fitted(), 100);
        x = Halls.still();
        x.machine(0, 0, 0, 5000, 0);
        x.batch(0, 900, 999, 0);
        x.heat(0, 100000);
        x.odds(0, 100, 7);
        x.minutes(1);
        is("more than 900 is as 900: A + 9 B", x.fitted(), 2009);
        fittedAt(799, 7);
        fittedAt(800, 8);
        fittedAt(899, 8);
        fittedAt(900, 9);
        fittedAt(100000, 9);
    }

    /** 19 stood and one failed at k: the first A and B with A + k B nearest to 50 is told. */
    private static void fittedAt(int heat, int k) {
        HotHall x = Halls.still();
        x.machine(0, 0, 0, 5000, 0);
        x.batch(0, 900, 999, 0);
        x.heat(0, heat);
        x.minutes(19);
        x.odds(100, 100, 7);
        x.minutes(1);
        x.odds(0, 0, 0);
        is("failed", x.of(0, 3), 1);
        int due = 0;
        for (int v = 20 * 10 + 9; v >= 10; v--) {
            int odds = v / 10 + v % 10 * k;
            due = odds == 50 ? v / 10 * 100 + v % 10 : due;
        }
        is("one of 20 failed at " + heat, x.fitted(), due);
    }

    /** A lot whose next is below 100 left over by 1000, or not. */
    private static int lotFor(boolean fails) {
        for (int lot = 0; ; lot++) {
            int next = lot * 1103515245 + 12345;
            if ((next >>> 16) % 1000 < 100 == fails) {
                return lot;
            }
        }
    }

    private static void drill() {
        DUE.part("27 drill");
        HotHall x = new HotHall();
        is("least", x.drill(0, 0, 0, 1), 1);
        is("most", x.drill(3, 500, 100000, 30), 1);
        int[][] wrong = {{-1, 0, 0, 1}, {4, 0, 0, 1}, {0, -1, 0, 1}, {0, 501, 0, 1}, {0, 0, -1, 1}, {0, 0, 100001, 1},
            {0, 0, 0, 0}, {0, 0, 0, 31}};
        for (int[] w : wrong) {
            is("wrong", x.drill(w[0], w[1], w[2], w[3]), HotHall.BAD);
        }
        x = new HotHall();
        x.drill(0, 501, 0, 1);
        is("what is refused isn't told", x.worst(0), HotHall.NONE);
    }

    private static void worst() {
        DUE.part("28 worst");
        HotHall x = Halls.still();
        is("none was told", x.worst(0), HotHall.NONE);
        is("none was told", x.worst(1), HotHall.NONE);
        is("wrong", x.worst(2), HotHall.BAD);
        is("wrong", x.worst(-1), HotHall.BAD);
        x.machine(0, 0, 10, 5000, 0);
        x.steady(0, 3, 5, 3, -1);
        x.steady(0, 8, 9, 3, -1);
        x.drill(3, 0, 30, 3);
        is("breaks nothing", x.worst(0), 3);
        is("breaks nothing", x.worst(1), 0);
        x.drill(2, 0, 29, 3);
        is("is over too soon; of like ones the first", x.worst(0), 2);
        is("breaks nothing", x.worst(1), 0);
        x.drill(3, 0, 29, 4);
        is("breaks one", x.worst(0), 3);
        is("breaks one", x.worst(1), 1);
        x.drill(1, 0, 29, 9);
        is("breaks two, the second behind it", x.worst(0), 1);
        is("breaks two", x.worst(1), 2);
        x.drill(0, 0, 0, 10);
        is("of like ones the first", x.worst(0), 0);
        is("nothing is changed", x.net(100000), 100000);
        is("nothing is changed", x.now(0), 0);
        x.drill(0, 0, 29, 3);
        x.drill(1, 0, 29, 3);
        x.drill(2, 0, 29, 3);
        x.drill(3, 0, 29, 3);
        is("told anew", x.worst(1), 0);
        // the works break by OUTSIDE, as the machine becomes too hot
        x = new HotHall();
        x.room(100, 500, 0);
        x.late(0);
        x.machine(0, 0, 0, 100, 0);
        x.steady(0, 1, 6, 3, 0);
        x.drill(2, 500, 100000, 1);
        is("breaks in the fifth more", x.worst(1), 0);
        x.drill(2, 500, 100000, 2);
        is("breaks in the fifth more", x.worst(1), 1);
    }

    private static void bill() {
        DUE.part("29 bill");
        HotHall x = Halls.still();
        is("wrong", x.bill(-1), -100000000);
        is("wrong", x.bill(8), -100000000);
        x.machine(0, 0, 0, 5000, 0);
        x.house(1, 1, 100, 30);
        x.house(2, 0, 7, 1000);
        x.batch(1, 3, 0, -1);
        x.batch(1, 3, 9, -1);
        x.batch(1, 900, 9, -1);
        x.batch(2, 3, 0, -1);
        is("nothing is over", x.bill(1), 0);
        x.minutes(2);
        is("7 for 3", x.bill(2), 7);
        is("0 broke, 1 is kept", x.bill(1), 70);
        is("another has none", x.bill(0), 0);
        x.house(0, 0, 5, 5);
        is("another has none", x.bill(0), 0);
        x.house(1, 1, 10, 1);
        is("by what is told now", x.bill(1), 9);
        x.minutes(9);
        is("2 broke", x.bill(1), 8);
    }

    private static void begin() {
        DUE.part("30 begin");
        HotHall x = new HotHall();
        x.minutes(3);
        is("no record ahead", x.begin(), 0);
        x.minutes(2);
        is("2 minutes", x.count(5), 2);
        is("2 minutes", x.begin(), 2);
        is("a new one", x.count(5), 0);
        x.minutes(45);
        is("40 at most", x.begin(), 40);
    }

    private static void record() {
        DUE.part("31 record");
        HotHall x = new HotHall();
        is("none", x.record(0), Halls.BAD_LONG);
        is("wrong", x.record(-1), Halls.NO_LONG);
        x.begin();
        x.minutes(2);
        is("12 times 2", x.record(0), 24);
        is("12 times 3", x.record(1), 36);
        is("not so many", x.record(2), Halls.BAD_LONG);
        is("not so many", x.record(Halls.MOST), Halls.BAD_LONG);
        is("wrong", x.record(Halls.LEAST), Halls.NO_LONG);
        x.minutes(50);
        is("not so many", x.record(40), Halls.BAD_LONG);
        is("the 40th", x.record(39) > 0 ? 1 : 0, 1);
    }

    private static void forge() {
        DUE.part("32 forge");
        HotHall x = new HotHall();
        is("no such one", x.forge(0, 1), HotHall.BAD);
        x.begin();
        x.minutes(2);
        is("forged", x.forge(0, 44), 1);
        is("forged", x.record(0), 44);
        is("forged", x.forge(1, Long.MIN_VALUE), 1);
        is("forged", x.record(1), Long.MIN_VALUE);
        is("no such one", x.forge(2, 1), HotHall.BAD);
        is("no such one", x.forge(-1, 1), HotHall.BAD);
        is("no such one", x.forge(Halls.MOST, 1), HotHall.BAD);
    }

    private static void check() {
        DUE.part("33 check");
        HotHall x = new HotHall();
        is("no record", x.check(), HotHall.NONE);
        x.machine(0, 9, 1, 100, 0);
        x.odds(3, 3, 99);
        x.batch(0, 900, 900, -1);
        x.begin();
        is("nothing in it", x.check(), HotHall.NONE);
        x.minutes(44);
        is("all come out", x.check(), HotHall.NONE);
        is("again", x.check(), HotHall.NONE);
        x.forge(30, x.record(30) + 1);
        is("30", x.check(), 30);
        x.forge(7, 0);
        is("the first", x.check(), 7);
        is("nothing is changed", x.now(0), 44);
        x.begin();
        x.minutes(2);
        x.room(500, 500, 0);
        is("still", x.check(), HotHall.NONE);
        x.minutes(1);
        is("gone over by what the image has", x.check(), 2);
        // going back to an image goes on with the record, too
        x = Halls.still();
        x.heat(0, 5);
        x.begin();
        x.image(0);
        x.minutes(1);
        x.heat(0, 9);
        x.from(0);
        x.minutes(1);
        is("comes out", x.check(), HotHall.NONE);
        is("two", x.count(5), 2);
    }

    private static void image() {
        DUE.part("34 image");
        HotHall x = new HotHall();
        is("0", x.image(0), 1);
        is("1", x.image(1), 1);
        is("wrong", x.image(2), HotHall.BAD);
        is("wrong", x.image(-1), HotHall.BAD);
        x.heat(0, 7);
        is("anew", x.image(1), 1);
        x.heat(0, 8);
        x.from(1);
        is("the later one", x.cell(0, 0), 7);
        x.from(0);
        is("the earlier one", x.cell(0, 0), 0);
        x.from(1);
        is("is kept", x.cell(0, 0), 7);
    }

    private static void from() {
        DUE.part("35 from");
        HotHall x = new HotHall();
        is("none was kept", x.from(0), HotHall.NO);
        is("wrong", x.from(2), HotHall.BAD);
        is("wrong", x.from(-1), HotHall.BAD);
        set(x, 1);
        x.minutes(7);
        long was = x.digest();
        x.image(1);
        is("none was kept", x.from(0), HotHall.NO);
        x.minutes(9);
        long later = x.digest();
        set(x, 2);
        x.minutes(3);
        is("from", x.from(1), 1);
        is("all is as it was", x.digest(), was);
        x.minutes(9);
        is("and goes on as it did", x.digest(), later);
        is("rules", x.fault(), HotHall.NONE);
        is("net", x.net(0), 101);
        is("price", x.price(3, 0), 11);
        is("feed", x.feed(2, 0), 102);
        is("late", x.late(0), 2);
        // drills and the record are no part of it
        x = new HotHall();
        x.image(0);
        x.drill(1, 100, 100, 3);
        x.begin();
        x.minutes(3);
        x.from(0);
        is("the drill is there", x.worst(0), 1);
        is("the record is there", x.count(5), 3);
        is("the image is there", x.from(0), 1);
        x.minutes(1);
        is("the record goes on", x.count(5), 4);
    }

    private static void set(HotHall x, int v) {
        x.room(100 + v, 20 + v, 100 + v);
        x.heat(3, 500 * v);
        x.cooler(3, 5 * v, 100 + v);
        x.machine(v, 30 + v, 10 + v, 100 + v, v);
        x.machine(v + 1, 30 + v, 10 + v, 100 + v, v);
        x.feed(2, 101 + v);
        x.net(100 + v);
        x.price(3, 10 + v);
        x.store(300 + v, 10 + v, 20 + v);
        x.late(v + 1);
        x.odds(v, v, 77 * v);
        x.house(v, v, v, v);
        x.batch(v, 50 + v, (int) x.now(0) + 12, -1);
        x.steady(v, (int) x.now(0) + 1, (int) x.now(0) + 9, v, 0);
        Halls.put(x, v == 1 ? "3-g/200" : "3-");
    }

    private static void count() {
        DUE.part("36 count");
        HotHall x = Halls.still();
        x.machine(0, 0, 0, 5000, 0);
        x.machine(1, 0, 0, 5000, 0);
        x.batch(0, 3, 0, 0);
        x.batch(0, 3, 0, 0);
        x.batch(0, 3, 0, 0);
        x.batch(0, 99, 99, 1);
        Halls.put(x, "3+0+0");
        x.begin();
        x.minutes(3);
        int[] due = {2, 4, 1, 2, 5, 3, 4};
        for (int i = 0; i < 7; i++) {
            is("count " + i, x.count(i), due[i]);
        }
        is("wrong", x.count(7), HotHall.BAD);
        is("wrong", x.count(-1), HotHall.BAD);
    }

    private static void digest() {
        DUE.part("37 digest");
        HotHall x = new HotHall();
        set(x, 1);
        x.house(1, 2, 3, 4);
        x.begin();
        x.minutes(20);
        x.odds(5, 6, -12345);
        long h = 359;
        for (int i = 0; i <= 6; i++) {
            h = 31 * h + x.count(i);
        }
        for (int i = 0; i <= 7; i++) {
            h = 31 * h + x.now(i);
        }
        for (int i = 0; i < 12; i++) {
            h = 31 * (31 * h + x.cell(i, 0)) + x.cell(i, 1);
        }
        for (int i = 0; i < x.count(0); i++) {
            for (int what = 0; what <= 4; what++) {
                h = 31 * h + x.of(i, what);
            }
        }
        for (int i = 0; i < x.count(1); i++) {
            for (int what = 0; what <= 4; what++) {
                h = 31 * h + x.work(i, what);
            }
        }
        for (int i = 0; i < 8; i++) {
            h = 31 * h + x.bill(i);
        }
        is("digest", x.digest(), 31 * h - 12345);
        is("again", x.digest(), 31 * h - 12345);
    }
}
