import java.util.Arrays;

/** Halls of machines, stepped by minutes. The document's promises say what each public method answers. */
public final class HotHall {
    public static final int NONE = -1, BAD = -2, NO = -3, FULL = -4;

    private static final int BAD_HEAT = -2000000000;
    private static final int NO_PLACING = -2100000000;
    private static final int BAD_BILL = -100000000;
    private static final long BAD_LONG = -2000000000000000000L;
    private static final long NO_LONG = -2100000000000000000L;

    private static final int ROW = 4;
    private static final int CELLS = 12;
    private static final int MACHINES = 10;
    private static final int FEEDS = 4;
    private static final int HOUSES = 8;
    private static final int WORKS = 16;
    private static final int DRILLS = 4;
    private static final int IMAGES = 2;

    private static final int MOST_OUTSIDE = 500;
    private static final int MOST_WALLS = 500;
    private static final int MOST_AIR = 200;
    private static final int MOST_AIM = 5000;
    private static final int MOST_NET = 100000;
    private static final int MOST_RATE = 10000;
    private static final int MOST_OTHER = 100000;
    private static final int LAST_MINUTE = 9999;
    private static final int MOST_FORETOLD = 30;
    private static final int MOST_WEIGHED = 8;
    private static final int AFTER_DRILL = 5;
    private static final int FASTEST = 3;

    private static final int NOT_YET = 0, OPEN = 1, KEPT = 2, BROKEN = 3, LEFT_OUT = 4;
    private static final int NO_ROOM = 1, BY_RULES = 2, BY_FEED = 3, BY_POWER = 4, BY_FAILING = 5, SLOW = 6;
    private static final int OTHER_OUTSIDE = 0, OTHER_NET = 1, OTHER_AIR = 2, OTHER_AIM = 3, OTHER_RATE = 4,
        OTHER_MACHINE = 5;

    private final Hall hall = new Hall();
    private final Hall trial = new Hall();
    private final Hall[] images = new Hall[IMAGES];
    private final boolean[] imageKept = new boolean[IMAGES];
    private final Drills drills = new Drills();
    private final Book book = new Book();
    private final Placer placer = new Placer();
    private final Fit fit = new Fit();

    public HotHall() {
        for (int i = 0; i < IMAGES; i++) {
            images[i] = new Hall();
        }
    }

    // ---- the room

    public int room(int outside, int walls, int air) {
        if (!within(outside, 0, MOST_OUTSIDE) || !within(walls, 0, MOST_WALLS) || !within(air, 0, MOST_AIR)) {
            return BAD;
        }
        hall.air.outside = outside;
        hall.air.walls = walls;
        hall.air.flow = air;
        return 1;
    }

    public int heat(int cell, int v) {
        if (!isCell(cell) || !within(v, 0, 100000)) {
            return BAD_HEAT;
        }
        int was = hall.air.heats[cell];
        hall.air.heats[cell] = v;
        return was;
    }

    public int cooler(int cell, int takes, int aim) {
        if (!isCell(cell) || !within(takes, 0, 10000) || !within(aim, 0, MOST_AIM)) {
            return BAD;
        }
        hall.air.takes[cell] = takes;
        hall.air.aims[cell] = aim;
        return 1;
    }

    public int machine(int cell, int heat, int power, int limit, int feed) {
        if (!isCell(cell) || !within(heat, 0, 500) || !within(power, 0, 500)
            || !within(limit, 1, 5000) || !within(feed, 0, FEEDS - 1)) {
            return BAD;
        }
        return hall.machines.add(cell, heat, power, limit, feed);
    }

    public int feed(int feed, int v) {
        if (!within(feed, 0, FEEDS - 1) || !within(v, 0, 10000)) {
            return BAD;
        }
        int was = hall.power.feeds[feed];
        hall.power.feeds[feed] = v;
        return was;
    }

    public int net(int v) {
        if (!within(v, 0, MOST_NET)) {
            return BAD;
        }
        int was = hall.power.net;
        hall.power.net = v;
        return was;
    }

    public int price(int minute, int v) {
        if (!within(minute, 0, Power.DAY - 1) || !within(v, 0, 1000)) {
            return BAD;
        }
        int was = hall.power.prices[minute];
        hall.power.prices[minute] = v;
        return was;
    }

    public int store(int room, int rate, int high) {
        if (!within(room, 0, 100000) || !within(rate, 0, MOST_RATE) || !within(high, 0, 1000)) {
            return BAD;
        }
        if (hall.power.held > room) {
            return NO;
        }
        hall.power.room = room;
        hall.power.rate = rate;
        hall.power.high = high;
        return 1;
    }

    public int late(int d) {
        if (!within(d, 0, Air.LATEST)) {
            return BAD;
        }
        int was = hall.air.late;
        hall.air.late = d;
        return was;
    }

    public int odds(int a, int b, int lot) {
        if (!within(a, 0, 100) || !within(b, 0, 100)) {
            return BAD;
        }
        hall.lots.a = a;
        hall.lots.b = b;
        hall.lots.lot = lot;
        return 1;
    }

    // ---- houses, works, rules

    public int house(int house, int rank, int fee, int credit) {
        if (!isHouse(house) || !within(rank, 0, 99) || !within(fee, 0, 1000) || !within(credit, 0, 1000)) {
            return BAD;
        }
        hall.works.setHouse(house, rank, fee, credit);
        return 1;
    }

    public int batch(int house, int many, int by, int pin) {
        if (!isHouse(house) || !within(many, 1, 1000) || !within(by, hall.minute, LAST_MINUTE) || !isPin(pin)) {
            return BAD;
        }
        return hall.works.addBatch(house, many, by, pin);
    }

    public int steady(int house, int from, int to, int wants, int pin) {
        if (!isHouse(house) || !within(from, hall.minute, LAST_MINUTE) || !within(to, from, LAST_MINUTE)
            || !within(wants, 1, FASTEST) || !isPin(pin)) {
            return BAD;
        }
        return hall.works.addSteady(house, from, to, wants, pin, hall.minute);
    }

    public int write(int character) {
        if (!within(character, 0, 127)) {
            return BAD;
        }
        return hall.rules.append(character);
    }

    public int erase() {
        return hall.rules.clear();
    }

    public int fault() {
        return hall.rules.fault;
    }

    // ---- minutes

    public int minutes(int n) {
        if (!within(n, 1, 60) || hall.minute + n > LAST_MINUTE) {
            return BAD;
        }
        int broke = 0;
        for (int i = 0; i < n; i++) {
            broke += hall.step();
            book.note(hall.air.sum());
        }
        return broke;
    }

    public int cell(int cell, int what) {
        if (!isCell(cell) || !within(what, 0, 1)) {
            return BAD_HEAT;
        }
        return what == 0 ? hall.air.heats[cell] : hall.air.gauge(cell);
    }

    public int of(int machine, int what) {
        return hall.machines.tell(machine, what);
    }

    public int work(int work, int what) {
        return hall.works.tell(work, what);
    }

    public long now(int what) {
        switch (what) {
            case 0: return hall.minute;
            case 1: return hall.speed;
            case 2: return hall.power.held;
            case 3: return hall.power.drawn;
            case 4: return hall.works.countIn(OPEN);
            case 5: return hall.machines.countFailed();
            case 6: return hall.air.sum();
            case 7: return hall.power.coin;
            default: return BAD_LONG;
        }
    }

    // ---- foretold

    public int placing(int what) {
        if (what != NONE && !hall.works.isOpen(what)) {
            return BAD_HEAT;
        }
        if (hall.works.countIn(OPEN) > MOST_WEIGHED) {
            return NO_PLACING;
        }
        placer.place(hall);
        return what == NONE ? placer.sum() : placer.machineFor(what);
    }

    public int without(int n) {
        if (!within(n, 1, MOST_FORETOLD)) {
            return BAD;
        }
        int open = hall.works.openBits();
        int many = Integer.bitCount(open);
        if (many > MOST_WEIGHED) {
            return NO;
        }
        for (int size = 0; size <= many; size++) {
            int set = 0;
            for (int i = 0; i < 1 << many; i++) {
                if (Integer.bitCount(set) == size && allKeptWithout(set, n)) {
                    return set;
                }
                set = nextSet(set, open);
            }
        }
        return NONE;
    }

    /** The borrow runs through the bits that aren't open, so the sets come in rising order. */
    private static int nextSet(int set, int open) {
        return (set - open) & open;
    }

    private boolean allKeptWithout(int set, int n) {
        trial.copyFrom(hall);
        trial.works.leaveOut(set);
        for (int i = 0; i < n; i++) {
            if (trial.step() > 0) {
                return false;
            }
        }
        return true;
    }

    public long other(int what, int v, int n, int which) {
        boolean vFits = what == OTHER_MACHINE ? isCell(v) : within(v, -MOST_OTHER, MOST_OTHER);
        if (!within(what, OTHER_OUTSIDE, OTHER_MACHINE) || !vFits || !within(n, 1, MOST_FORETOLD)
            || !within(which, 0, 1)) {
            return BAD_LONG;
        }
        if (what == OTHER_MACHINE && !within(hall.machines.many, 1, MACHINES - 1)) {
            return NO_LONG;
        }
        trial.copyFrom(hall);
        int brokeAsIs = trial.go(n);
        long coinAsIs = trial.power.coin;
        trial.copyFrom(hall);
        trial.makeOther(what, v);
        int broke = trial.go(n);
        return which == 0 ? broke - brokeAsIs : trial.power.coin - coinAsIs;
    }

    public int fitted() {
        return hall.lots.told == 0 ? NONE : fit.likeliest(hall.lots);
    }

    public int drill(int drill, int outside, int net, int n) {
        if (!within(drill, 0, DRILLS - 1) || !within(outside, 0, MOST_OUTSIDE) || !within(net, 0, MOST_NET)
            || !within(n, 1, MOST_FORETOLD)) {
            return BAD;
        }
        drills.spans[drill] = n;
        drills.outsides[drill] = outside;
        drills.nets[drill] = net;
        return 1;
    }

    public int worst(int what) {
        if (!within(what, 0, 1)) {
            return BAD;
        }
        int worst = NONE;
        int most = NONE;
        for (int i = 0; i < DRILLS; i++) {
            int broke = drills.spans[i] > 0 ? brokenInDrill(i) : NONE;
            if (broke > most) {
                most = broke;
                worst = i;
            }
        }
        return what == 0 ? worst : most;
    }

    private int brokenInDrill(int i) {
        trial.copyFrom(hall);
        trial.air.outside = drills.outsides[i];
        trial.power.net = drills.nets[i];
        int broke = trial.go(drills.spans[i]);
        trial.air.outside = hall.air.outside;
        trial.power.net = hall.power.net;
        return broke + trial.go(AFTER_DRILL);
    }

    public int bill(int house) {
        return isHouse(house) ? hall.works.billOf(house) : BAD_BILL;
    }

    // ---- records, images

    public int begin() {
        int had = book.many;
        book.open(hall);
        return had;
    }

    public long record(int i) {
        if (i < 0) {
            return NO_LONG;
        }
        return i < book.many ? book.sums[i] : BAD_LONG;
    }

    public int forge(int i, long v) {
        if (!within(i, 0, book.many - 1)) {
            return BAD;
        }
        book.sums[i] = v;
        return 1;
    }

    public int check() {
        trial.copyFrom(book.start);
        for (int i = 0; i < book.many; i++) {
            trial.step();
            if (trial.air.sum() != book.sums[i]) {
                return i;
            }
        }
        return NONE;
    }

    public int image(int i) {
        if (!within(i, 0, IMAGES - 1)) {
            return BAD;
        }
        images[i].copyFrom(hall);
        imageKept[i] = true;
        return 1;
    }

    public int from(int i) {
        if (!within(i, 0, IMAGES - 1)) {
            return BAD;
        }
        if (!imageKept[i]) {
            return NO;
        }
        hall.copyFrom(images[i]);
        return 1;
    }

    public int count(int what) {
        switch (what) {
            case 0: return hall.machines.many;
            case 1: return hall.works.many;
            case 2: return hall.works.countIn(KEPT);
            case 3: return hall.works.countIn(BROKEN);
            case 4: return hall.rules.length;
            case 5: return book.many;
            case 6: return hall.lots.told;
            default: return BAD;
        }
    }

    public long digest() {
        long h = 359;
        for (int i = 0; i <= 6; i++) {
            h = 31 * h + count(i);
        }
        for (int i = 0; i <= 7; i++) {
            h = 31 * h + now(i);
        }
        for (int i = 0; i < CELLS; i++) {
            h = 31 * h + hall.air.heats[i];
            h = 31 * h + hall.air.gauge(i);
        }
        for (int i = 0; i < hall.machines.many; i++) {
            for (int what = 0; what <= 4; what++) {
                h = 31 * h + hall.machines.tell(i, what);
            }
        }
        for (int i = 0; i < hall.works.many; i++) {
            for (int what = 0; what <= 4; what++) {
                h = 31 * h + hall.works.tell(i, what);
            }
        }
        for (int i = 0; i < HOUSES; i++) {
            h = 31 * h + hall.works.billOf(i);
        }
        return 31 * h + hall.lots.lot;
    }

    // ---- what numbers may be

    private static boolean within(int v, int least, int most) {
        return v >= least && v <= most;
    }

    private static int brought(int v, int most) {
        return Math.max(0, Math.min(v, most));
    }

    private static boolean isCell(int v) {
        return within(v, 0, CELLS - 1);
    }

    private static boolean isHouse(int v) {
        return within(v, 0, HOUSES - 1);
    }

    private boolean isPin(int v) {
        return within(v, NONE, hall.machines.many - 1);
    }

    /** All that an image keeps, and how a minute goes. */
    private static final class Hall {
        final Air air = new Air();
        final Machines machines = new Machines();
        final Power power = new Power();
        final Works works = new Works();
        final Rules rules = new Rules();
        final Lots lots = new Lots();
        final long[] seen = new long[Rules.SEEN];
        int minute;
        int speed;

        void copyFrom(Hall other) {
            air.copyFrom(other.air);
            machines.copyFrom(other.machines);
            power.copyFrom(other.power);
            works.copyFrom(other.works);
            rules.copyFrom(other.rules);
            lots.copyFrom(other.lots);
            minute = other.minute;
            speed = other.speed;
        }

        /** The number of works that broke. */
        int go(int n) {
            int broke = 0;
            for (int i = 0; i < n; i++) {
                broke += step();
            }
            return broke;
        }

        int step() {
            tellSpeed();
            readGauges();
            placeWorks();
            setSpeeds();
            tripFeeds();
            shedWorks();
            power.supply(minute);
            air.remember();
            machines.warm(air);
            air.settle();
            failMachines();
            finishWorks();
            machines.endTrips();
            minute++;
            return works.close(minute);
        }

        private void tellSpeed() {
            seen[0] = air.greatestGauge();
            seen[1] = power.priceAt(minute);
            seen[2] = power.held;
            seen[3] = works.countIn(OPEN);
            seen[4] = minute;
            seen[5] = machines.countFailed();
            speed = rules.fault == NONE ? (int) Math.max(0, Math.min(rules.value(seen), FASTEST)) : FASTEST;
        }

        private void readGauges() {
            for (int m = 0; m < machines.many; m++) {
                machines.gauges[m] = air.gauge(machines.cells[m]);
            }
        }

        private void placeWorks() {
            machines.clear();
            works.clear();
            for (int i = 0; i < works.many; i++) {
                int work = works.order[i];
                if (works.states[work] == OPEN) {
                    placeWork(work);
                }
            }
        }

        private void placeWork(int work) {
            int chosen = NONE;
            for (int m = 0; m < machines.many; m++) {
                boolean fits = machines.works[m] == NONE && machines.isFit(m) && works.mayHave(work, m);
                if (fits && (chosen == NONE || machines.gauges[m] < machines.gauges[chosen])) {
                    chosen = m;
                }
            }
            if (chosen == NONE) {
                works.why[work] = NO_ROOM;
            } else {
                works.ranBy[work] = chosen;
                machines.works[chosen] = work;
            }
        }

        private void setSpeeds() {
            for (int m = 0; m < machines.many; m++) {
                int work = machines.works[m];
                if (work != NONE) {
                    int most = machines.gauges[m] > machines.limits[m] ? 1 : FASTEST;
                    machines.speeds[m] = Math.min(Math.min(speed, most), works.mostSpeed(work));
                    if (machines.speeds[m] == 0) {
                        stop(m, BY_RULES);
                    }
                }
            }
        }

        /** The machine keeps the work as its own for this minute, but doesn't run it. */
        private void stop(int machine, int cause) {
            int work = machines.works[machine];
            machines.speeds[machine] = 0;
            if (work != NONE) {
                works.why[work] = cause;
                works.ranBy[work] = NONE;
            }
        }

        private void tripFeeds() {
            for (int feed = 0; feed < FEEDS; feed++) {
                int drawn = machines.drawnFrom(feed);
                for (int m = machines.many - 1; m >= 0 && drawn > power.feeds[feed]; m--) {
                    int draw = machines.drawOf(m);
                    if (machines.feeds[m] == feed && draw > 0) {
                        drawn -= draw;
                        machines.trips[m] = Machines.TRIP;
                        stop(m, BY_FEED);
                    }
                }
            }
        }

        private void shedWorks() {
            int drawn = machines.drawn();
            int most = power.net + power.canGive();
            for (int i = works.many - 1; i >= 0 && drawn > most; i--) {
                int machine = works.ranBy[works.order[i]];
                if (machine != NONE) {
                    drawn -= machines.drawOf(machine);
                    stop(machine, BY_POWER);
                }
            }
            power.drawn = drawn;
        }

        private void failMachines() {
            for (int m = 0; m < machines.many; m++) {
                int work = machines.works[m];
                if (work != NONE && machines.speeds[m] > 0 && lots.draw(air.heats[machines.cells[m]])) {
                    machines.failed[m] = 1;
                    works.why[work] = BY_FAILING;
                }
            }
        }

        private void finishWorks() {
            for (int w = 0; w < works.many; w++) {
                if (works.states[w] == OPEN) {
                    int machine = works.ranBy[w];
                    works.finish(w, machine == NONE ? 0 : machines.speeds[machine]);
                }
            }
        }

        void makeOther(int what, int v) {
            switch (what) {
                case OTHER_OUTSIDE: air.outside = brought(air.outside + v, MOST_OUTSIDE); break;
                case OTHER_NET: power.net = brought(power.net + v, MOST_NET); break;
                case OTHER_AIR: air.flow = brought(air.flow + v, MOST_AIR); break;
                case OTHER_AIM: air.moveAims(v); break;
                case OTHER_RATE: power.rate = brought(power.rate + v, MOST_RATE); break;
                default: machines.addLikeFirst(v); break;
            }
        }
    }

    /** Heat of cells, and the gauges, which show what it was. */
    private static final class Air {
        static final int LATEST = 5;
        private static final int THOUSAND = 1000;
        private static final int HOTTEST = 100000000;

        final int[] heats = new int[CELLS];
        final int[] takes = new int[CELLS];
        final int[] aims = new int[CELLS];
        /** Heats as minutes began: the last minute's first, then those of the one ahead of it, and so on. */
        private final int[] past = new int[LATEST * CELLS];
        private final int[] next = new int[CELLS];
        int outside = 100;
        int walls = 20;
        int flow = 100;
        int late = 1;

        Air() {
            Arrays.fill(aims, 200);
        }

        void copyFrom(Air other) {
            System.arraycopy(other.heats, 0, heats, 0, CELLS);
            System.arraycopy(other.takes, 0, takes, 0, CELLS);
            System.arraycopy(other.aims, 0, aims, 0, CELLS);
            System.arraycopy(other.past, 0, past, 0, LATEST * CELLS);
            outside = other.outside;
            walls = other.walls;
            flow = other.flow;
            late = other.late;
        }

        int gauge(int cell) {
            return late == 0 ? heats[cell] : past[(late - 1) * CELLS + cell];
        }

        int greatestGauge() {
            int greatest = gauge(0);
            for (int c = 1; c < CELLS; c++) {
                greatest = Math.max(greatest, gauge(c));
            }
            return greatest;
        }

        long sum() {
            long sum = 0;
            for (int c = 0; c < CELLS; c++) {
                sum += heats[c];
            }
            return sum;
        }

        void moveAims(int v) {
            for (int c = 0; c < CELLS; c++) {
                aims[c] = brought(aims[c] + v, MOST_AIM);
            }
        }

        /** Called ahead of any change of heat, so that the gauges of this minute's rules and placing stay as they were. */
        void remember() {
            System.arraycopy(past, 0, past, CELLS, (LATEST - 1) * CELLS);
            System.arraycopy(heats, 0, past, 0, CELLS);
        }

        void settle() {
            for (int c = 0; c < CELLS; c++) {
                next[c] = heats[c] - part(heats[c] - outside, walls);
            }
            for (int c = 0; c < CELLS; c++) {
                if (c % ROW < ROW - 1) {
                    exchange(c, c + 1);
                }
                if (c + ROW < CELLS) {
                    exchange(c, c + ROW);
                }
            }
            for (int c = 0; c < CELLS; c++) {
                int cooled = Math.max(0, Math.min(takes[c], next[c] - aims[c]));
                heats[c] = Math.min(HOTTEST, next[c] - cooled);
            }
        }

        /** Reads what was and changes only what comes, so that all flows go at once. */
        private void exchange(int one, int two) {
            int flows = part(heats[one] - heats[two], flow);
            next[one] -= flows;
            next[two] += flows;
        }

        private static int part(int v, int thousandths) {
            return (int) ((long) v * thousandths / THOUSAND);
        }
    }

    private static final class Machines {
        static final int TRIP = 3;

        final int[] cells = new int[MACHINES];
        private final int[] makes = new int[MACHINES];
        private final int[] draws = new int[MACHINES];
        final int[] limits = new int[MACHINES];
        final int[] feeds = new int[MACHINES];
        final int[] trips = new int[MACHINES];
        final int[] failed = new int[MACHINES];
        final int[] works = new int[MACHINES];
        final int[] speeds = new int[MACHINES];
        /** Of their cells, as this minute began. */
        final int[] gauges = new int[MACHINES];
        int many;

        void copyFrom(Machines other) {
            System.arraycopy(other.cells, 0, cells, 0, MACHINES);
            System.arraycopy(other.makes, 0, makes, 0, MACHINES);
            System.arraycopy(other.draws, 0, draws, 0, MACHINES);
            System.arraycopy(other.limits, 0, limits, 0, MACHINES);
            System.arraycopy(other.feeds, 0, feeds, 0, MACHINES);
            System.arraycopy(other.trips, 0, trips, 0, MACHINES);
            System.arraycopy(other.failed, 0, failed, 0, MACHINES);
            System.arraycopy(other.works, 0, works, 0, MACHINES);
            System.arraycopy(other.speeds, 0, speeds, 0, MACHINES);
            many = other.many;
        }

        int add(int cell, int heat, int power, int limit, int feed) {
            if (many >= MACHINES) {
                return FULL;
            }
            cells[many] = cell;
            makes[many] = heat;
            draws[many] = power;
            limits[many] = limit;
            feeds[many] = feed;
            trips[many] = 0;
            failed[many] = 0;
            works[many] = NONE;
            speeds[many] = 0;
            many++;
            return many - 1;
        }

        void addLikeFirst(int cell) {
            add(cell, makes[0], draws[0], limits[0], feeds[0]);
        }

        int tell(int machine, int what) {
            if (!within(machine, 0, many - 1)) {
                return BAD;
            }
            switch (what) {
                case 0: return works[machine];
                case 1: return speeds[machine];
                case 2: return trips[machine];
                case 3: return failed[machine];
                case 4: return cells[machine];
                default: return BAD;
            }
        }

        int countFailed() {
            int count = 0;
            for (int m = 0; m < many; m++) {
                count += failed[m];
            }
            return count;
        }

        boolean isFit(int machine) {
            return trips[machine] == 0 && failed[machine] == 0;
        }

        void clear() {
            Arrays.fill(works, NONE);
            Arrays.fill(speeds, 0);
        }

        int drawOf(int machine) {
            return speeds[machine] * draws[machine];
        }

        int drawnFrom(int feed) {
            int sum = 0;
            for (int m = 0; m < many; m++) {
                if (feeds[m] == feed) {
                    sum += drawOf(m);
                }
            }
            return sum;
        }

        int drawn() {
            int sum = 0;
            for (int m = 0; m < many; m++) {
                sum += drawOf(m);
            }
            return sum;
        }

        void warm(Air air) {
            for (int m = 0; m < many; m++) {
                air.heats[cells[m]] += speeds[m] * makes[m];
            }
        }

        void endTrips() {
            for (int m = 0; m < many; m++) {
                trips[m] = Math.max(0, trips[m] - 1);
            }
        }
    }

    /** Feeds, the net, the store, and what they cost. */
    private static final class Power {
        static final int DAY = 24;

        final int[] feeds = new int[FEEDS];
        final int[] prices = new int[DAY];
        int net = MOST_NET;
        int room;
        int rate;
        int high = 50;
        int held;
        int drawn;
        long coin;

        Power() {
            Arrays.fill(feeds, 10000);
            Arrays.fill(prices, 10);
        }

        void copyFrom(Power other) {
            System.arraycopy(other.feeds, 0, feeds, 0, FEEDS);
            System.arraycopy(other.prices, 0, prices, 0, DAY);
            net = other.net;
            room = other.room;
            rate = other.rate;
            high = other.high;
            held = other.held;
            drawn = other.drawn;
            coin = other.coin;
        }

        int priceAt(int minute) {
            return prices[Math.floorMod(minute, DAY)];
        }

        int canGive() {
            return Math.min(rate, held);
        }

        /** What the store takes is given by the net and paid for as well. */
        void supply(int minute) {
            int price = priceAt(minute);
            boolean dear = price >= high;
            int fromStore = dear ? Math.min(drawn, canGive()) : Math.max(0, drawn - net);
            int fromNet = drawn - fromStore;
            held -= fromStore;
            if (!dear) {
                int taken = Math.min(Math.min(net - fromNet, rate), room - held);
                held += taken;
                fromNet += taken;
            }
            coin += (long) price * fromNet;
        }
    }

    /** Houses and their works. */
    private static final class Works {
        private static final int BATCH = 0, STEADY = 1;

        final int[] ranks = new int[HOUSES];
        private final int[] fees = new int[HOUSES];
        private final int[] credits = new int[HOUSES];
        private final int[] kinds = new int[WORKS];
        private final int[] houses = new int[WORKS];
        /** What a batch is done with, and the speed that a steady work wants. */
        private final int[] wants = new int[WORKS];
        private final int[] firsts = new int[WORKS];
        private final int[] lasts = new int[WORKS];
        final int[] pins = new int[WORKS];
        private final int[] done = new int[WORKS];
        final int[] states = new int[WORKS];
        private final int[] causes = new int[WORKS];
        /** This minute's cause, before it is known whether it counts for the work. */
        final int[] why = new int[WORKS];
        final int[] ranBy = new int[WORKS];
        final int[] order = new int[WORKS];
        int many;

        void copyFrom(Works other) {
            System.arraycopy(other.ranks, 0, ranks, 0, HOUSES);
            System.arraycopy(other.fees, 0, fees, 0, HOUSES);
            System.arraycopy(other.credits, 0, credits, 0, HOUSES);
            System.arraycopy(other.kinds, 0, kinds, 0, WORKS);
            System.arraycopy(other.houses, 0, houses, 0, WORKS);
            System.arraycopy(other.wants, 0, wants, 0, WORKS);
            System.arraycopy(other.firsts, 0, firsts, 0, WORKS);
            System.arraycopy(other.lasts, 0, lasts, 0, WORKS);
            System.arraycopy(other.pins, 0, pins, 0, WORKS);
            System.arraycopy(other.done, 0, done, 0, WORKS);
            System.arraycopy(other.states, 0, states, 0, WORKS);
            System.arraycopy(other.causes, 0, causes, 0, WORKS);
            System.arraycopy(other.ranBy, 0, ranBy, 0, WORKS);
            System.arraycopy(other.order, 0, order, 0, WORKS);
            many = other.many;
        }

        void setHouse(int house, int rank, int fee, int credit) {
            ranks[house] = rank;
            fees[house] = fee;
            credits[house] = credit;
            putInOrder();
        }

        int addBatch(int house, int amount, int by, int pin) {
            if (many >= WORKS) {
                return FULL;
            }
            kinds[many] = BATCH;
            firsts[many] = 0;
            lasts[many] = by;
            states[many] = OPEN;
            return add(house, amount, pin);
        }

        int addSteady(int house, int first, int last, int speed, int pin, int minute) {
            if (many >= WORKS) {
                return FULL;
            }
            kinds[many] = STEADY;
            firsts[many] = first;
            lasts[many] = last;
            states[many] = first <= minute ? OPEN : NOT_YET;
            return add(house, speed, pin);
        }

        private int add(int house, int wanted, int pin) {
            int work = many;
            houses[work] = house;
            wants[work] = wanted;
            pins[work] = pin;
            done[work] = 0;
            causes[work] = 0;
            ranBy[work] = NONE;
            many++;
            putInOrder();
            return work;
        }

        private void putInOrder() {
            for (int i = 0; i < many; i++) {
                int at = i;
                for (; at > 0 && isAhead(i, order[at - 1]); at--) {
                    order[at] = order[at - 1];
                }
                order[at] = i;
            }
        }

        private boolean isAhead(int one, int two) {
            return placeInOrder(one) < placeInOrder(two);
        }

        private int placeInOrder(int work) {
            int house = houses[work];
            return (ranks[house] * HOUSES + house) * WORKS + work;
        }

        int tell(int work, int what) {
            if (!within(work, 0, many - 1)) {
                return BAD;
            }
            switch (what) {
                case 0: return states[work];
                case 1: return done[work];
                case 2: return causes[work];
                case 3: return houses[work];
                case 4: return ranBy[work];
                default: return BAD;
            }
        }

        int countIn(int state) {
            int count = 0;
            for (int w = 0; w < many; w++) {
                if (states[w] == state) {
                    count++;
                }
            }
            return count;
        }

        boolean isOpen(int work) {
            return within(work, 0, many - 1) && states[work] == OPEN;
        }

        int openBits() {
            int bits = 0;
            for (int w = 0; w < many; w++) {
                if (states[w] == OPEN) {
                    bits |= 1 << w;
                }
            }
            return bits;
        }

        void leaveOut(int bits) {
            for (int w = 0; w < many; w++) {
                if ((bits >> w & 1) == 1) {
                    states[w] = LEFT_OUT;
                }
            }
        }

        boolean mayHave(int work, int machine) {
            return pins[work] == NONE || pins[work] == machine;
        }

        int mostSpeed(int work) {
            return kinds[work] == STEADY ? wants[work] : FASTEST;
        }

        void clear() {
            Arrays.fill(why, 0);
            Arrays.fill(ranBy, NONE);
        }

        /** A work whose machine failed ran, but was not done. */
        void finish(int work, int speed) {
            int worked = why[work] == 0 ? speed : 0;
            int cause = why[work] == 0 ? SLOW : why[work];
            if (kinds[work] == STEADY) {
                finishSteady(work, worked, cause);
            } else {
                done[work] += worked;
                causes[work] = worked == FASTEST ? causes[work] : cause;
            }
        }

        private void finishSteady(int work, int worked, int cause) {
            if (worked == wants[work]) {
                done[work]++;
            } else if (causes[work] == 0) {
                causes[work] = cause;
            }
        }

        /** The number of works that broke as this minute came. */
        int close(int minute) {
            int broke = 0;
            for (int w = 0; w < many; w++) {
                if (states[w] == NOT_YET || states[w] == OPEN) {
                    states[w] = stateAt(w, minute);
                    if (states[w] == BROKEN) {
                        broke++;
                    }
                }
            }
            return broke;
        }

        private int stateAt(int work, int minute) {
            boolean isSteady = kinds[work] == STEADY;
            int needed = isSteady ? lasts[work] - firsts[work] + 1 : wants[work];
            boolean over = minute > lasts[work];
            if (done[work] >= needed && (over || !isSteady)) {
                return KEPT;
            }
            if (over) {
                return BROKEN;
            }
            return minute >= firsts[work] ? OPEN : NOT_YET;
        }

        int billOf(int house) {
            int sum = 0;
            for (int w = 0; w < many; w++) {
                if (houses[w] == house && states[w] == KEPT) {
                    sum += fees[house];
                } else if (houses[w] == house && states[w] == BROKEN) {
                    sum -= credits[house];
                }
            }
            return sum;
        }
    }

    /** The text that tells the speed. It is read once, as it is written, into a row of steps for the minutes. */
    private static final class Rules {
        static final int SEEN = 6;
        private static final int LONGEST = 60;
        private static final int DEEPEST = 8;
        private static final int MOST_DIGITS = 6;
        private static final int WRONG = 1, TOO_LONG = 2, TOO_DEEP = 3;
        private static final String NAMES = "gpswmf";
        private static final int MINUS = '~';

        private final int[] text = new int[LONGEST];
        /** Numbers as they are; what is seen as -1 and down, by NAMES; what joins as its character below 0. */
        private final int[] steps = new int[LONGEST];
        private final int[] waiting = new int[LONGEST];
        private final long[] values = new long[LONGEST];
        int length;
        int fault = WRONG;
        private int many;
        private int waits;
        private int depth;
        /** Bits: whether the part that is read at this depth has its comparison. */
        private int compared;
        private int digits;
        private int numberAt;
        private boolean wantsUnit;

        void copyFrom(Rules other) {
            System.arraycopy(other.text, 0, text, 0, LONGEST);
            System.arraycopy(other.steps, 0, steps, 0, LONGEST);
            length = other.length;
            fault = other.fault;
            many = other.many;
        }

        int append(int c) {
            if (length >= LONGEST) {
                return FULL;
            }
            text[length] = c;
            length++;
            readAll();
            return length;
        }

        int clear() {
            int had = length;
            length = 0;
            readAll();
            return had;
        }

        private void readAll() {
            fault = NONE;
            many = 0;
            waits = 0;
            depth = 0;
            compared = 0;
            digits = 0;
            wantsUnit = true;
            for (int at = 0; at < length && fault == NONE; at++) {
                readAt(at);
            }
            if (fault == NONE && (wantsUnit || depth > 0)) {
                refuse(length, WRONG);
            }
            putWaiting(binding('|'));
        }

        private void refuse(int at, int kind) {
            fault = 10 * at + kind;
        }

        private void readAt(int at) {
            int c = text[at];
            if (c >= '0' && c <= '9') {
                readDigit(at, c - '0');
                return;
            }
            digits = 0;
            if (c == ' ') {
                return;
            }
            if (wantsUnit) {
                readUnit(at, c);
            } else if (c == ')') {
                readClosing(at);
            } else {
                readJoin(at, c);
            }
        }

        private void readDigit(int at, int digit) {
            if (digits == 0 && !wantsUnit) {
                refuse(at, WRONG);
            } else if (digits == 0) {
                numberAt = at;
                digits = 1;
                putUnit(digit);
            } else if (digits == MOST_DIGITS) {
                refuse(numberAt, TOO_LONG);
            } else if (many > 0) {
                digits++;
                steps[many - 1] = steps[many - 1] * 10 + digit;
            }
        }

        private void readUnit(int at, int c) {
            int name = NAMES.indexOf((char) c);
            if (name >= 0) {
                putUnit(-1 - name);
            } else if (c == '!') {
                await('!');
            } else if (c == '-') {
                await(MINUS);
            } else if (c != '(') {
                refuse(at, WRONG);
            } else if (depth == DEEPEST) {
                refuse(at, TOO_DEEP);
            } else {
                depth++;
                compared &= ~(1 << depth);
                await('(');
            }
        }

        private void readClosing(int at) {
            if (depth == 0) {
                refuse(at, WRONG);
                return;
            }
            putWaiting(binding('|'));
            if (waits > 0) {
                waits--;
            }
            depth--;
        }

        private void readJoin(int at, int c) {
            int binds = binding(c);
            int here = 1 << depth;
            boolean compares = binds == binding('=');
            if (binds == 0 || binds == binding('!') || compares && (compared & here) != 0) {
                refuse(at, WRONG);
                return;
            }
            if (compares) {
                compared |= here;
            } else if (binds < binding('=')) {
                compared &= ~here;
            }
            putWaiting(binds);
            await(c);
            wantsUnit = true;
        }

        /** 0: joins nothing; an open parenthesis thereby keeps what waits beneath it. */
        private static int binding(int c) {
            switch (c) {
                case '|': return 1;
                case '&': return 2;
                case '<': case '>': case '=': return 3;
                case '+': case '-': return 4;
                case '*': case '/': return 5;
                case '!': case MINUS: return 6;
                default: return 0;
            }
        }

        private void putUnit(int step) {
            put(step);
            wantsUnit = false;
        }

        private void put(int step) {
            if (many < LONGEST) {
                steps[many] = step;
                many++;
            }
        }

        private void await(int c) {
            if (waits < LONGEST) {
                waiting[waits] = c;
                waits++;
            }
        }

        private void putWaiting(int leastBinding) {
            for (; waits > 0 && binding(waiting[waits - 1]) >= leastBinding; waits--) {
                put(-waiting[waits - 1]);
            }
        }

        long value(long[] seen) {
            int top = -1;
            for (int i = 0; i < many; i++) {
                int step = steps[i];
                if (step >= -SEEN && top < LONGEST - 1) {
                    top++;
                    values[top] = step >= 0 ? step : seen[-1 - step];
                } else if (step == -'!' && top >= 0) {
                    values[top] = values[top] == 0 ? 1 : 0;
                } else if (step == -MINUS && top >= 0) {
                    values[top] = -values[top];
                } else if (top >= 1) {
                    top--;
                    values[top] = joined(-step, values[top], values[top + 1]);
                }
            }
            return top < 0 ? 0 : values[top];
        }

        private static long joined(int c, long left, long right) {
            switch (c) {
                case '|': return left != 0 || right != 0 ? 1 : 0;
                case '&': return left != 0 && right != 0 ? 1 : 0;
                case '<': return left < right ? 1 : 0;
                case '>': return left > right ? 1 : 0;
                case '=': return left == right ? 1 : 0;
                case '+': return left + right;
                case '-': return left - right;
                case '*': return left * right;
                case '/': return right == 0 ? 0 : left / right;
                default: return 0;
            }
        }
    }

    /** The odds of failing, the lot, and what was told of both. */
    private static final class Lots {
        static final int HEATS = 10;
        private static final int MOST_TOLD = 60;

        int a;
        int b;
        int lot;
        int told;
        /** By hundreds of heat: the order in which things were told makes no odds. */
        final int[] failedAt = new int[HEATS];
        final int[] stoodAt = new int[HEATS];

        void copyFrom(Lots other) {
            System.arraycopy(other.failedAt, 0, failedAt, 0, HEATS);
            System.arraycopy(other.stoodAt, 0, stoodAt, 0, HEATS);
            a = other.a;
            b = other.b;
            lot = other.lot;
            told = other.told;
        }

        boolean draw(int heat) {
            int hundreds = heat / 100;
            lot = lot * 1103515245 + 12345;
            boolean fails = (lot >>> 16) % 1000 < a + b * hundreds;
            if (told < MOST_TOLD) {
                int[] row = fails ? failedAt : stoodAt;
                row[brought(hundreds, HEATS - 1)]++;
                told++;
            }
            return fails;
        }
    }

    /** Finds the likeliest odds. Products are whole numbers of up to 60 factors up to 1000, held exactly. */
    private static final class Fit {
        private static final int LIMBS = 13;
        private static final int LIMB_BITS = 50;
        private static final long LIMB_MASK = (1L << LIMB_BITS) - 1;

        private long[] best = new long[LIMBS];
        private long[] tried = new long[LIMBS];
        private int used;

        int likeliest(Lots lots) {
            int answer = NONE;
            Arrays.fill(best, 0);
            for (int a = 1; a <= 20; a++) {
                for (int b = 0; b <= 9; b++) {
                    multiplyAll(lots, a, b);
                    if (isTriedGreater()) {
                        long[] was = best;
                        best = tried;
                        tried = was;
                        answer = 100 * a + b;
                    }
                }
            }
            return answer;
        }

        private void multiplyAll(Lots lots, int a, int b) {
            Arrays.fill(tried, 0);
            tried[0] = 1;
            used = 1;
            for (int k = 0; k < Lots.HEATS; k++) {
                int fails = a + b * k;
                for (int i = 0; i < lots.failedAt[k]; i++) {
                    multiply(fails);
                }
                for (int i = 0; i < lots.stoodAt[k]; i++) {
                    multiply(1000 - fails);
                }
            }
        }

        private void multiply(int factor) {
            long carry = 0;
            for (int i = 0; i < used; i++) {
                long product = tried[i] * factor + carry;
                tried[i] = product & LIMB_MASK;
                carry = product >>> LIMB_BITS;
            }
            if (carry > 0 && used < LIMBS) {
                tried[used] = carry;
                used++;
            }
        }

        private boolean isTriedGreater() {
            for (int i = LIMBS - 1; i >= 0; i--) {
                if (tried[i] != best[i]) {
                    return tried[i] > best[i];
                }
            }
            return false;
        }
    }

    /** Finds the best placing of the works that are open. */
    private static final class Placer {
        /** One placed work outweighs every sum of gauges. */
        private static final long PLACED = 1L << 40;

        private final int[] open = new int[MOST_WEIGHED];
        private final int[] pins = new int[MOST_WEIGHED];
        private final int[] chosen = new int[MOST_WEIGHED];
        private final int[] gauges = new int[MACHINES];
        private final int[] coolest = new int[MACHINES];
        private int many;
        private int machines;

        void place(Hall hall) {
            takeWorks(hall.works);
            int free = takeMachines(hall);
            long left = bestFrom(0, free);
            for (int i = 0; i < many; i++) {
                chosen[i] = firstChoice(i, free, left);
                if (chosen[i] != NONE) {
                    free &= ~(1 << chosen[i]);
                    left -= worth(chosen[i]);
                }
            }
        }

        private void takeWorks(Works works) {
            many = 0;
            for (int w = 0; w < works.many && many < MOST_WEIGHED; w++) {
                if (works.states[w] == OPEN) {
                    open[many] = w;
                    pins[many] = works.pins[w];
                    many++;
                }
            }
        }

        private int takeMachines(Hall hall) {
            int free = 0;
            machines = hall.machines.many;
            for (int m = 0; m < machines; m++) {
                gauges[m] = hall.air.gauge(hall.machines.cells[m]);
                int at = m;
                for (; at > 0 && gauges[coolest[at - 1]] > gauges[m]; at--) {
                    coolest[at] = coolest[at - 1];
                }
                coolest[at] = m;
                if (hall.machines.isFit(m)) {
                    free |= 1 << m;
                }
            }
            return free;
        }

        private long worth(int machine) {
            return PLACED - gauges[machine];
        }

        /** The first in the row's order that leaves the best for the works behind it. */
        private int firstChoice(int i, int free, long left) {
            if (bestFrom(i + 1, free) == left) {
                return NONE;
            }
            for (int m = 0; m < machines; m++) {
                boolean fits = (free >> m & 1) == 1 && (pins[i] == NONE || pins[i] == m);
                if (fits && bestFrom(i + 1, free & ~(1 << m)) + worth(m) == left) {
                    return m;
                }
            }
            return NONE;
        }

        /**
         * Machines that works are pinned to can always go to one of these without loss, and the works that
         * aren't pinned are all alike, so they take the coolest of the rest.
         */
        private long bestFrom(int first, int free) {
            int claimed = 0;
            int loose = 0;
            for (int i = first; i < many; i++) {
                if (pins[i] == NONE) {
                    loose++;
                } else {
                    claimed |= 1 << pins[i] & free;
                }
            }
            long best = 0;
            for (int i = 0; i < machines; i++) {
                int m = coolest[i];
                boolean isClaimed = (claimed >> m & 1) == 1;
                if (isClaimed) {
                    best += worth(m);
                } else if (loose > 0 && (free >> m & 1) == 1) {
                    best += worth(m);
                    loose--;
                }
            }
            return best;
        }

        int sum() {
            int sum = 0;
            for (int i = 0; i < many; i++) {
                if (chosen[i] != NONE) {
                    sum += gauges[chosen[i]];
                }
            }
            return sum;
        }

        int machineFor(int work) {
            for (int i = 0; i < many; i++) {
                if (open[i] == work) {
                    return chosen[i];
                }
            }
            return NONE;
        }
    }

    /** A drill that was not told has a span of 0. */
    private static final class Drills {
        final int[] spans = new int[DRILLS];
        final int[] outsides = new int[DRILLS];
        final int[] nets = new int[DRILLS];
    }

    /** The record. */
    private static final class Book {
        private static final int MOST = 40;

        final Hall start = new Hall();
        final long[] sums = new long[MOST];
        private boolean isOpen;
        int many;

        void open(Hall hall) {
            start.copyFrom(hall);
            isOpen = true;
            many = 0;
        }

        void note(long sum) {
            if (isOpen && many < MOST) {
                sums[many] = sum;
                many++;
            }
        }
    }
}
