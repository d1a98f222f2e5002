import java.util.Arrays;
import java.util.List;
import java.util.function.Consumer;

/**
 * "Refused, changing nothing, the first of: BAD -2 a number is not as told; NO -3 as told; FULL -4." For each number of
 * each call: the last that is taken and the first that is refused on either side; what each refusal answers; which
 * comes first where two are due; and that nothing has changed behind it: two halls made alike, of which one was asked
 * for what is refused, answer all that Probe asks alike. What only asks changes nothing, either.
 */
public final class RefusalsTest {
    private interface Call {
        long on(HotHall x);
    }

    private interface Row {
        long on(HotHall x, int[] row);
    }

    private static final int NEW = 0, BUSY = 1, FULL = 2, HALLS = 3;
    private static final String[] NAMES = {"a new hall", "a busy hall", "a full hall"};
    private static final List<String> ANSWER_ONE = List.of("room", "cooler", "store", "odds", "house", "drill", "image",
        "from", "forge");
    private static final Due DUE = new Due();
    private static final long[][] UNTOUCHED = new long[HALLS][];

    public static void main(String[] args) {
        for (int hall = 0; hall < HALLS; hall++) {
            UNTOUCHED[hall] = Probe.answers(make(hall));
        }
        hallsAreAsMeant();
        probeSeesAll();
        theRoom();
        housesAndWorks();
        rules();
        minutes();
        foretold();
        recordsAndImages();
        noBehindBad();
        fullBehindBad();
        askingChangesNothing();
        DUE.end();
    }

    private static HotHall make(int hall) {
        return hall == NEW ? new HotHall() : hall == BUSY ? Halls.busy() : Halls.full();
    }

    private static void hallsAreAsMeant() {
        DUE.part("halls");
        HotHall x = Halls.busy();
        int[] busy = {6, 12, x.count(2), x.count(3), 13, 12, x.count(6)};
        for (int i = 0; i < 7; i++) {
            DUE.is("busy, count " + i, x.count(i), busy[i]);
        }
        DUE.holds("busy: some are open, 8 at most", x.now(4) > 1 && x.now(4) <= 8);
        DUE.holds("busy: some are kept, some broken", x.count(2) > 0 && x.count(3) > 0);
        DUE.is("busy: minute", x.now(0), 12);
        x = Halls.full();
        DUE.is("full: machines", x.count(0), 10);
        DUE.is("full: works", x.count(1), 16);
        DUE.is("full: characters", x.count(4), 60);
        DUE.is("full: rules without a fault", x.fault(), HotHall.NONE);
        DUE.is("full: the record", x.count(5), 40);
        DUE.is("full: told", x.count(6), 60);
        DUE.holds("full: more than 8 are open", x.now(4) > 8);
        DUE.holds("full: something is in the store", x.now(2) > 0);
    }

    // ---- what the probe sees, so that "nothing has changed" says something

    private static void sees(String what, Consumer<HotHall> change) {
        HotHall x = make(BUSY);
        change.accept(x);
        DUE.holds("the probe sees " + what, !Arrays.equals(Probe.answers(x), UNTOUCHED[BUSY]));
    }

    private static void probeSeesAll() {
        DUE.part("probe");
        for (Changes.Change change : Changes.all()) {
            if (!change.name().startsWith("FEE of") && !change.name().startsWith("CREDIT of")) {
                sees(change.name(), change.on());
            }
        }
        for (int i = 0; i < 8; i++) {
            int house = i;
            sees("FEE or CREDIT of " + i, x -> x.house(house, 3 * house % 5, 11 + house, 101 + 7 * house));
        }
        for (int i = 0; i < 4; i++) {
            int drill = i;
            sees("DRILL " + i, x -> x.drill(drill, 500, 0, 25));
        }
        sees("a record", x -> x.begin());
        for (int i = 0; i < 12; i++) {
            int minute = i;
            sees("sum " + i, x -> x.forge(minute, x.record(minute) + 1));
        }
        for (int i = 0; i < 2; i++) {
            int image = i;
            sees("image " + i, x -> x.image(image));
            sees("from " + i, x -> x.from(image));
        }
    }

    // ---- what is refused and what is taken

    private static void refused(int hall, String call, Call made, long due) {
        HotHall x = make(hall);
        DUE.is(call + " in " + NAMES[hall], made.on(x), due);
        long[] got = Probe.answers(x);
        for (int i = 0; i < got.length; i++) {
            if (got[i] != UNTOUCHED[hall][i]) {
                DUE.is(call + " in " + NAMES[hall] + ", thereafter answer " + i, got[i], UNTOUCHED[hall][i]);
                return;
            }
        }
    }

    private static void refused(String call, Call made, long due) {
        for (int hall = 0; hall < HALLS; hall++) {
            refused(hall, call, made, due);
        }
    }

    private static void taken(int hall, String call, Call made) {
        long got = made.on(make(hall));
        boolean isRefusal = got == HotHall.BAD || got == HotHall.NO || got == HotHall.FULL || got == Halls.BAD_HEAT
            || got == Halls.BAD_LONG || got == Halls.NO_PLACING || got == Halls.NO_LONG || got == Halls.BAD_BILL;
        DUE.holds(call + " is taken in " + NAMES[hall], !isRefusal);
        if (ANSWER_ONE.contains(call.split("[ \\[]")[0])) {
            DUE.is(call + " in " + NAMES[hall], got, 1);
        }
    }

    /** Each number of a row goes to its ends and beyond, the others being usual. */
    private static void ends(String name, long refusal, int[] usual, int[][] ends, Row call) {
        for (int hall = 0; hall < HALLS; hall++) {
            beyond(hall, name, refusal, usual, ends, call);
        }
        within(BUSY, name, usual, ends, call);
    }

    private static void beyond(int hall, String name, long refusal, int[] usual, int[][] ends, Row call) {
        for (int i = 0; i < usual.length; i++) {
            int[] wrong = {ends[i][0] - 1, ends[i][1] + 1, Halls.LEAST, Halls.MOST};
            for (int v : wrong) {
                int[] row = usual.clone();
                row[i] = v;
                refused(hall, name + Arrays.toString(row), x -> call.on(x, row), refusal);
            }
        }
    }

    private static void within(int hall, String name, int[] usual, int[][] ends, Row call) {
        for (int i = 0; i < usual.length; i++) {
            for (int v : ends[i]) {
                int[] row = usual.clone();
                row[i] = v;
                taken(hall, name + Arrays.toString(row), x -> call.on(x, row));
            }
        }
    }

    private static int[][] pairs(int... ends) {
        int[][] pairs = new int[ends.length / 2][];
        for (int i = 0; i < pairs.length; i++) {
            pairs[i] = new int[] {ends[2 * i], ends[2 * i + 1]};
        }
        return pairs;
    }

    // ---- promises 2 to 11

    private static void theRoom() {
        DUE.part("2 room");
        ends("room", HotHall.BAD, new int[] {130, 37, 83}, pairs(0, 500, 0, 500, 0, 200),
            (x, r) -> x.room(r[0], r[1], r[2]));
        DUE.part("3 heat");
        ends("heat", Halls.BAD_HEAT, new int[] {5, 77}, pairs(0, 11, 0, 100000), (x, r) -> x.heat(r[0], r[1]));
        DUE.part("4 cooler");
        ends("cooler", HotHall.BAD, new int[] {5, 7, 99}, pairs(0, 11, 0, 10000, 0, 5000),
            (x, r) -> x.cooler(r[0], r[1], r[2]));
        DUE.part("5 machine");
        ends("machine", HotHall.BAD, new int[] {5, 7, 9, 99, 1}, pairs(0, 11, 0, 500, 0, 500, 1, 5000, 0, 3),
            (x, r) -> x.machine(r[0], r[1], r[2], r[3], r[4]));
        refused(FULL, "an 11th machine", x -> x.machine(5, 7, 9, 99, 1), HotHall.FULL);
        DUE.part("6 feed");
        ends("feed", HotHall.BAD, new int[] {2, 60}, pairs(0, 3, 0, 10000), (x, r) -> x.feed(r[0], r[1]));
        DUE.part("7 net");
        ends("net", HotHall.BAD, new int[] {60}, pairs(0, 100000), (x, r) -> x.net(r[0]));
        DUE.part("8 price");
        ends("price", HotHall.BAD, new int[] {4, 60}, pairs(0, 23, 0, 1000), (x, r) -> x.price(r[0], r[1]));
        DUE.part("9 store");
        ends("store", HotHall.BAD, new int[] {100, 60, 50}, pairs(0, 100000, 0, 10000, 0, 1000),
            (x, r) -> x.store(r[0], r[1], r[2]));
        DUE.part("10 late");
        ends("late", HotHall.BAD, new int[] {2}, pairs(0, 5), (x, r) -> x.late(r[0]));
        DUE.part("11 odds");
        ends("odds", HotHall.BAD, new int[] {4, 4}, pairs(0, 100, 0, 100), (x, r) -> x.odds(r[0], r[1], 5));
        for (int lot : new int[] {Halls.LEAST, -1, 0, 1, Halls.MOST}) {
            taken(BUSY, "odds with lot " + lot, x -> x.odds(4, 4, lot));
        }
    }

    // ---- promises 12 to 14

    private static void housesAndWorks() {
        DUE.part("12 house");
        ends("house", HotHall.BAD, new int[] {3, 5, 60, 70}, pairs(0, 7, 0, 99, 0, 1000, 0, 1000),
            (x, r) -> x.house(r[0], r[1], r[2], r[3]));
        int[] minutes = {0, 12, 44};
        int[] machines = {0, 6, 10};
        for (int hall = 0; hall < HALLS; hall++) {
            int now = minutes[hall];
            int last = machines[hall] - 1;
            DUE.part("13 batch");
            int[] batch = {3, 5, now + 9, -1};
            int[][] batchEnds = pairs(0, 7, 1, 1000, now, 9999, -1, last);
            Row batchCall = (x, r) -> x.batch(r[0], r[1], r[2], r[3]);
            beyond(hall, "batch", HotHall.BAD, batch, batchEnds, batchCall);
            DUE.part("14 steady");
            int[] steady = {3, now + 5, now + 9, 2, -1};
            int[][] steadyEnds = pairs(0, 7, now, now + 9, now + 5, 9999, 1, 3, -1, last);
            Row steadyCall = (x, r) -> x.steady(r[0], r[1], r[2], r[3], r[4]);
            beyond(hall, "steady", HotHall.BAD, steady, steadyEnds, steadyCall);
            refused(hall, "steady, both gone", x -> x.steady(3, now - 1, now - 1, 2, -1), HotHall.BAD);
            refused(hall, "steady, both too late", x -> x.steady(3, 10000, 10000, 2, -1), HotHall.BAD);
            if (hall != FULL) {
                within(hall, "batch", batch, batchEnds, batchCall);
                within(hall, "steady", steady, steadyEnds, steadyCall);
                taken(hall, "steady, now", x -> x.steady(3, now, now, 2, -1));
                taken(hall, "steady, last", x -> x.steady(3, 9999, 9999, 2, -1));
            }
        }
        refused(FULL, "a 17th work, a batch", x -> x.batch(3, 5, 60, -1), HotHall.FULL);
        refused(FULL, "a 17th work, a steady one", x -> x.steady(3, 60, 60, 2, -1), HotHall.FULL);
    }

    // ---- promises 15 to 17

    private static void rules() {
        DUE.part("15 write");
        ends("write", HotHall.BAD, new int[] {40}, pairs(0, 127), (x, r) -> x.write(r[0]));
        refused(FULL, "a 61st character", x -> x.write('1'), HotHall.FULL);
        refused(FULL, "a 61st character, a blank", x -> x.write(' '), HotHall.FULL);
        refused(FULL, "a 61st character, 0", x -> x.write(0), HotHall.FULL);
        DUE.part("16 erase");
        refused(NEW, "nothing is erased", x -> x.erase(), 0);
    }

    // ---- promises 18 to 22

    private static void minutes() {
        DUE.part("18 minutes");
        ends("minutes", HotHall.BAD, new int[] {3}, pairs(1, 60), (x, r) -> x.minutes(r[0]));
        DUE.part("19 cell");
        ends("cell", Halls.BAD_HEAT, new int[] {5, 1}, pairs(0, 11, 0, 1), (x, r) -> x.cell(r[0], r[1]));
        Row of = (x, r) -> x.of(r[0], r[1]);
        Row work = (x, r) -> x.work(r[0], r[1]);
        DUE.part("20 of");
        beyond(BUSY, "of", HotHall.BAD, new int[] {3, 1}, pairs(0, 5, 0, 4), of);
        within(BUSY, "of", new int[] {3, 1}, pairs(0, 5, 0, 4), of);
        beyond(FULL, "of", HotHall.BAD, new int[] {3, 1}, pairs(0, 9, 0, 4), of);
        within(FULL, "of", new int[] {3, 1}, pairs(0, 9, 0, 4), of);
        refused(NEW, "of, none is there", x -> x.of(0, 0), HotHall.BAD);
        DUE.part("21 work");
        beyond(BUSY, "work", HotHall.BAD, new int[] {3, 1}, pairs(0, 11, 0, 4), work);
        within(BUSY, "work", new int[] {3, 1}, pairs(0, 11, 0, 4), work);
        beyond(FULL, "work", HotHall.BAD, new int[] {3, 1}, pairs(0, 15, 0, 4), work);
        within(FULL, "work", new int[] {3, 1}, pairs(0, 15, 0, 4), work);
        refused(NEW, "work, none is there", x -> x.work(0, 0), HotHall.BAD);
        DUE.part("22 now");
        ends("now", Halls.BAD_LONG, new int[] {3}, pairs(0, 7), (x, r) -> x.now(r[0]));
    }

    // ---- promises 23 to 29

    private static void foretold() {
        DUE.part("23 placing");
        int[] never = {-2, 16, Halls.LEAST, Halls.MOST};
        for (int what : never) {
            refused("placing " + what, x -> x.placing(what), Halls.BAD_HEAT);
        }
        HotHall busy = make(BUSY);
        for (int w = 0; w < 16; w++) {
            int work = w;
            boolean isOpen = busy.work(w, 0) == 1;
            if (isOpen) {
                taken(BUSY, "placing " + w, x -> x.placing(work));
            } else {
                refused(BUSY, "placing, not open, " + w, x -> x.placing(work), Halls.BAD_HEAT);
            }
        }
        refused(NEW, "placing, none is there", x -> x.placing(0), Halls.BAD_HEAT);
        DUE.part("24 without");
        ends("without", HotHall.BAD, new int[] {3}, pairs(1, 30), (x, r) -> x.without(r[0]));
        DUE.part("25 other");
        for (int what = 0; what < 5; what++) {
            ends("other", Halls.BAD_LONG, new int[] {what, 5, 3, 1}, pairs(0, 5, -100000, 100000, 1, 30, 0, 1),
                (x, r) -> x.other(r[0], r[1], r[2], r[3]));
        }
        ends("other", Halls.BAD_LONG, new int[] {5, 5, 3, 1}, pairs(0, 5, 0, 11, 1, 30, 0, 1),
            (x, r) -> x.other(r[0], r[1], r[2], r[3]));
        DUE.part("27 drill");
        ends("drill", HotHall.BAD, new int[] {2, 5, 60, 3}, pairs(0, 3, 0, 500, 0, 100000, 1, 30),
            (x, r) -> x.drill(r[0], r[1], r[2], r[3]));
        DUE.part("28 worst");
        ends("worst", HotHall.BAD, new int[] {0}, pairs(0, 1), (x, r) -> x.worst(r[0]));
        DUE.part("29 bill");
        ends("bill", Halls.BAD_BILL, new int[] {3}, pairs(0, 7), (x, r) -> x.bill(r[0]));
    }

    // ---- promises 30 to 36

    private static void recordsAndImages() {
        DUE.part("31 record");
        for (int i : new int[] {-1, -2, Halls.LEAST}) {
            refused("record " + i, x -> x.record(i), Halls.NO_LONG);
        }
        for (int i : new int[] {40, 41, Halls.MOST}) {
            refused("record " + i, x -> x.record(i), Halls.BAD_LONG);
        }
        refused(NEW, "record 0", x -> x.record(0), Halls.BAD_LONG);
        refused(BUSY, "record 12", x -> x.record(12), Halls.BAD_LONG);
        taken(BUSY, "record 11", x -> x.record(11));
        taken(FULL, "record 39", x -> x.record(39));
        DUE.part("32 forge");
        for (int i : new int[] {-1, 40, Halls.LEAST, Halls.MOST}) {
            refused("forge " + i, x -> x.forge(i, 5), HotHall.BAD);
        }
        refused(NEW, "forge 0", x -> x.forge(0, 5), HotHall.BAD);
        refused(BUSY, "forge 12", x -> x.forge(12, 5), HotHall.BAD);
        for (long v : new long[] {Long.MIN_VALUE, -1, 0, Long.MAX_VALUE}) {
            taken(BUSY, "forge 0", x -> x.forge(0, v));
            taken(BUSY, "forge 11", x -> x.forge(11, v));
            taken(FULL, "forge 39", x -> x.forge(39, v));
        }
        DUE.part("34 image");
        ends("image", HotHall.BAD, new int[] {0}, pairs(0, 1), (x, r) -> x.image(r[0]));
        DUE.part("35 from");
        ends("from", HotHall.BAD, new int[] {0}, pairs(0, 1), (x, r) -> x.from(r[0]));
        refused(NEW, "from 0", x -> x.from(0), HotHall.NO);
        refused(NEW, "from 1", x -> x.from(1), HotHall.NO);
        DUE.part("36 count");
        ends("count", HotHall.BAD, new int[] {0}, pairs(0, 6), (x, r) -> x.count(r[0]));
    }

    // ---- which comes first

    private static void noBehindBad() {
        DUE.part("BAD, then NO");
        int held = (int) make(FULL).now(2);
        refused(FULL, "store, more is in it", x -> x.store(held - 1, 5, 5), HotHall.NO);
        taken(FULL, "store, as much is in it", x -> x.store(held, 5, 5));
        refused(FULL, "store, RATE is wrong, too", x -> x.store(held - 1, -1, 5), HotHall.BAD);
        refused(FULL, "store, HIGH is wrong, too", x -> x.store(held - 1, 5, 1001), HotHall.BAD);
        refused(FULL, "store, more is in it than -1, too", x -> x.store(-1, 5, 5), HotHall.BAD);
        int open = firstOpen(make(FULL));
        refused(FULL, "placing, above 8", x -> x.placing(HotHall.NONE), Halls.NO_PLACING);
        refused(FULL, "placing of a work, above 8", x -> x.placing(open), Halls.NO_PLACING);
        refused(FULL, "placing of none, above 8", x -> x.placing(16), Halls.BAD_HEAT);
        refused(FULL, "without, above 8", x -> x.without(1), HotHall.NO);
        refused(FULL, "without 30, above 8", x -> x.without(30), HotHall.NO);
        refused(FULL, "without 31, above 8", x -> x.without(31), HotHall.BAD);
        refused(FULL, "without 0, above 8", x -> x.without(0), HotHall.BAD);
        for (int hall : new int[] {NEW, FULL}) {
            refused(hall, "other: a machine", x -> x.other(5, 0, 1, 0), Halls.NO_LONG);
            refused(hall, "other: a machine", x -> x.other(5, 11, 30, 1), Halls.NO_LONG);
            refused(hall, "other: a machine, no cell", x -> x.other(5, 12, 1, 0), Halls.BAD_LONG);
            refused(hall, "other: a machine, no cell", x -> x.other(5, -1, 1, 0), Halls.BAD_LONG);
            refused(hall, "other: a machine, no minutes", x -> x.other(5, 0, 0, 0), Halls.BAD_LONG);
            refused(hall, "other: a machine, which", x -> x.other(5, 0, 1, 2), Halls.BAD_LONG);
            for (int what = 0; what < 5; what++) {
                int other = what;
                taken(hall, "other " + what, x -> x.other(other, 1, 1, 0));
            }
        }
        refused(NEW, "from 2, none was kept", x -> x.from(2), HotHall.BAD);
    }

    private static int firstOpen(HotHall x) {
        int w = 0;
        while (x.work(w, 0) != 1) {
            w++;
        }
        return w;
    }

    private static void fullBehindBad() {
        DUE.part("BAD, then FULL");
        refused(FULL, "machine", x -> x.machine(12, 7, 9, 99, 1), HotHall.BAD);
        refused(FULL, "machine", x -> x.machine(5, 7, 9, 99, 4), HotHall.BAD);
        refused(FULL, "batch, gone", x -> x.batch(3, 5, 43, -1), HotHall.BAD);
        refused(FULL, "batch, no such machine", x -> x.batch(3, 5, 60, 10), HotHall.BAD);
        refused(FULL, "steady, from above to", x -> x.steady(3, 61, 60, 2, -1), HotHall.BAD);
        refused(FULL, "steady, no such machine", x -> x.steady(3, 60, 60, 2, 10), HotHall.BAD);
        refused(FULL, "write", x -> x.write(128), HotHall.BAD);
        refused(FULL, "write", x -> x.write(-1), HotHall.BAD);
    }

    private static void askingChangesNothing() {
        DUE.part("asking");
        for (int hall = 0; hall < HALLS; hall++) {
            HotHall foretold = make(hall);
            askForetold(foretold);
            DUE.holds("what is foretold, in " + NAMES[hall], Arrays.equals(Probe.answers(foretold), UNTOUCHED[hall]));
            HotHall told = make(hall);
            askTold(told);
            DUE.holds("what is told, in " + NAMES[hall], Arrays.equals(Probe.answers(told), UNTOUCHED[hall]));
        }
    }

    private static void askForetold(HotHall x) {
        for (int w = -1; w < 16; w++) {
            x.placing(w);
        }
        for (int n = 1; n <= 30; n += 29) {
            x.without(n);
            for (int what = 0; what <= 5; what++) {
                x.other(what, 5, n, 0);
                x.other(what, -5, n, 1);
            }
        }
        x.worst(0);
        x.worst(1);
        x.fitted();
        x.check();
    }

    private static void askTold(HotHall x) {
        for (int i = 0; i < 12; i++) {
            x.cell(i, 1);
            x.of(i, 2);
            x.work(i, 1);
            x.now(i);
            x.bill(i);
            x.record(i);
            x.count(i);
        }
        x.fault();
        x.digest();
    }
}
