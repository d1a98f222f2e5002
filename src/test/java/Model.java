import java.math.BigInteger;
import java.util.ArrayList;
import java.util.List;

/**
 * The document once more, as plainly as can be, without regard for time or room: works are asked anew what they are,
 * sets and placings are all gone through, rules are worked by recursion, odds by big numbers. ModelTest holds HotHall
 * against it. It shares the reading of unclear places with HotHall; the Promises tests hold those by hand.
 */
final class Model {
    static final int NONE = -1, BAD = -2, NO = -3, FULL = -4;
    private static final long BAD_L = -2000000000000000000L, NO_L = -2100000000000000000L;

    private static final class Mach {
        int cell, heat, power, limit, feed, trip, work = NONE, speed;
        boolean failed;

        Mach copy() {
            Mach m = new Mach();
            m.cell = cell;
            m.heat = heat;
            m.power = power;
            m.limit = limit;
            m.feed = feed;
            m.trip = trip;
            m.work = work;
            m.speed = speed;
            m.failed = failed;
            return m;
        }
    }

    private static final class Job {
        int number, house, from, to, wants, pin, done, cause, ran = NONE, why;
        boolean steady, left;

        Job copy() {
            Job j = new Job();
            j.number = number;
            j.house = house;
            j.from = from;
            j.to = to;
            j.wants = wants;
            j.pin = pin;
            j.done = done;
            j.cause = cause;
            j.ran = ran;
            j.steady = steady;
            j.left = left;
            return j;
        }

        int state(int minute) {
            if (!steady && done >= wants) {
                return 2;
            }
            if (minute > to) {
                return steady && done == to - from + 1 ? 2 : 3;
            }
            return steady && minute < from ? 0 : 1;
        }

        boolean open(int minute) {
            return !left && state(minute) == 1;
        }
    }

    private static final class State {
        int outside = 100, walls = 20, air = 100, net = 100000, room, rate, high = 50, in, late = 1, a, b, lot;
        int minute, speed, drawn;
        long coin;
        int[] heat = new int[12], takes = new int[12], aim = new int[12], feeds = new int[4], prices = new int[24];
        int[] rank = new int[8], fee = new int[8], credit = new int[8];
        List<Mach> machs = new ArrayList<>();
        List<Job> jobs = new ArrayList<>();
        List<int[]> begins = new ArrayList<>();
        List<int[]> told = new ArrayList<>();
        String rules = "";

        State() {
            java.util.Arrays.fill(aim, 200);
            java.util.Arrays.fill(feeds, 10000);
            java.util.Arrays.fill(prices, 10);
        }

        State copy() {
            State s = new State();
            s.outside = outside;
            s.walls = walls;
            s.air = air;
            s.net = net;
            s.room = room;
            s.rate = rate;
            s.high = high;
            s.in = in;
            s.late = late;
            s.a = a;
            s.b = b;
            s.lot = lot;
            s.minute = minute;
            s.speed = speed;
            s.drawn = drawn;
            s.coin = coin;
            s.heat = heat.clone();
            s.takes = takes.clone();
            s.aim = aim.clone();
            s.feeds = feeds.clone();
            s.prices = prices.clone();
            s.rank = rank.clone();
            s.fee = fee.clone();
            s.credit = credit.clone();
            for (Mach m : machs) {
                s.machs.add(m.copy());
            }
            for (Job j : jobs) {
                s.jobs.add(j.copy());
            }
            s.begins.addAll(begins);
            s.told.addAll(told);
            s.rules = rules;
            return s;
        }

        int gauge(int cell) {
            if (late == 0) {
                return heat[cell];
            }
            int at = begins.size() - late;
            return at < 0 ? 0 : begins.get(at)[cell];
        }

        long sum() {
            long sum = 0;
            for (int h : heat) {
                sum += h;
            }
            return sum;
        }

        int price() {
            return prices[minute % 24];
        }

        List<Job> open() {
            List<Job> open = new ArrayList<>();
            for (Job j : jobs) {
                if (j.open(minute)) {
                    open.add(j);
                }
            }
            return open;
        }

        int failedMany() {
            int many = 0;
            for (Mach m : machs) {
                many += m.failed ? 1 : 0;
            }
            return many;
        }

        long seen(char c) {
            switch (c) {
                case 'g': {
                    int g = Integer.MIN_VALUE;
                    for (int i = 0; i < 12; i++) {
                        g = Math.max(g, gauge(i));
                    }
                    return g;
                }
                case 'p': return price();
                case 's': return in;
                case 'w': return open().size();
                case 'm': return minute;
                default: return failedMany();
            }
        }

        int minute() {
            Reader reader = new Reader(rules, this);
            long v = reader.read();
            speed = reader.fault != NONE ? 3 : (int) Math.max(0, Math.min(3, v));
            List<Job> open = open();
            List<Job> row = new ArrayList<>(open);
            row.sort((x, y) -> rank[x.house] != rank[y.house] ? rank[x.house] - rank[y.house]
                : x.house != y.house ? x.house - y.house : x.number - y.number);
            for (Mach m : machs) {
                m.work = NONE;
                m.speed = 0;
            }
            for (Job j : jobs) {
                j.ran = NONE;
                j.why = 0;
            }
            for (Job j : row) {
                Mach best = null;
                for (Mach m : machs) {
                    boolean may = m.work == NONE && m.trip == 0 && !m.failed
                        && (j.pin == NONE || machs.get(j.pin) == m);
                    if (may && (best == null || gauge(m.cell) < gauge(best.cell))) {
                        best = m;
                    }
                }
                if (best == null) {
                    j.why = 1;
                } else {
                    best.work = j.number;
                }
            }
            for (Mach m : machs) {
                if (m.work != NONE) {
                    Job j = jobs.get(m.work);
                    m.speed = speed;
                    if (gauge(m.cell) > m.limit) {
                        m.speed = Math.min(m.speed, 1);
                    }
                    if (j.steady) {
                        m.speed = Math.min(m.speed, j.wants);
                    }
                    if (m.speed == 0) {
                        j.why = 2;
                    }
                }
            }
            feeds();
            power(row);
            begins.add(heat.clone());
            heat();
            for (Mach m : machs) {
                if (m.speed > 0) {
                    lot = (int) (lot * 1103515245L + 12345L);
                    int hundreds = heat[m.cell] / 100;
                    boolean fails = (int) ((lot & 0xffffffffL) / 65536 % 1000) < a + b * hundreds;
                    if (told.size() < 60) {
                        told.add(new int[] {Math.max(0, Math.min(9, hundreds)), fails ? 1 : 0});
                    }
                    Job j = jobs.get(m.work);
                    j.ran = machs.indexOf(m);
                    if (fails) {
                        m.failed = true;
                        j.why = 5;
                    }
                }
            }
            for (Job j : open) {
                int s = j.ran != NONE && j.why == 0 ? machs.get(j.ran).speed : 0;
                int cause = j.why != 0 ? j.why : 6;
                if (j.steady) {
                    if (s == j.wants) {
                        j.done++;
                    } else if (j.cause == 0) {
                        j.cause = cause;
                    }
                } else {
                    j.done += s;
                    if (s != 3) {
                        j.cause = cause;
                    }
                }
            }
            for (Mach m : machs) {
                if (m.trip > 0) {
                    m.trip--;
                }
            }
            int was = broken();
            minute++;
            return broken() - was;
        }

        int broken() {
            int many = 0;
            for (Job j : jobs) {
                if (!j.left && j.state(minute) == 3) {
                    many++;
                }
            }
            return many;
        }

        void feeds() {
            for (int f = 0; f < 4; f++) {
                for (int round = 0; round < 11; round++) {
                    int draws = 0;
                    Mach last = null;
                    for (Mach m : machs) {
                        if (m.feed == f && m.speed * m.power > 0) {
                            draws += m.speed * m.power;
                            last = m;
                        }
                    }
                    if (draws > feeds[f]) {
                        last.trip = 3;
                        last.speed = 0;
                        jobs.get(last.work).why = 3;
                    }
                }
            }
        }

        int draws() {
            int draws = 0;
            for (Mach m : machs) {
                draws += m.speed * m.power;
            }
            return draws;
        }

        void power(List<Job> row) {
            int can = Math.min(rate, in);
            while (draws() > net + can) {
                Mach last = null;
                for (Job j : row) {
                    for (Mach m : machs) {
                        if (m.work == j.number && m.speed > 0) {
                            last = m;
                        }
                    }
                }
                last.speed = 0;
                jobs.get(last.work).why = 4;
            }
            drawn = draws();
            long netGave;
            if (price() >= high) {
                int gives = Math.min(can, drawn);
                in -= gives;
                netGave = drawn - gives;
            } else {
                netGave = Math.min(net, drawn);
                in -= drawn - netGave;
                long takes = Math.min(net - netGave, Math.min(rate, room - in));
                in += takes;
                netGave += takes;
            }
            coin += price() * netGave;
        }

        void heat() {
            for (Mach m : machs) {
                heat[m.cell] += m.speed * m.heat;
            }
            int[] was = heat.clone();
            for (int x = 0; x < 12; x++) {
                for (int y = 0; y < 12; y++) {
                    int far = Math.abs(x / 4 - y / 4) + Math.abs(x % 4 - y % 4);
                    if (far == 1 && was[x] > was[y]) {
                        int goes = (int) ((was[x] - (long) was[y]) * air / 1000);
                        heat[x] -= goes;
                        heat[y] += goes;
                    }
                }
                heat[x] -= (int) ((was[x] - (long) outside) * walls / 1000);
            }
            for (int x = 0; x < 12; x++) {
                if (heat[x] > aim[x]) {
                    heat[x] -= Math.min(takes[x], heat[x] - aim[x]);
                }
                heat[x] = Math.min(heat[x], 100000000);
            }
        }
    }

    /** Recursive, by the document's grammar; the value of what has a fault is of no use. */
    private static final class Reader {
        private final String text;
        private final State state;
        private int at, depth;
        int fault = NONE;

        Reader(String text, State state) {
            this.text = text;
            this.state = state;
        }

        long read() {
            long v = value();
            skip();
            if (at < text.length()) {
                wrong(at, 1);
            }
            return v;
        }

        private void wrong(int place, int kind) {
            if (fault == NONE) {
                fault = 10 * place + kind;
            }
        }

        private void skip() {
            while (at < text.length() && text.charAt(at) == ' ') {
                at++;
            }
        }

        private char peek() {
            skip();
            return fault != NONE || at >= text.length() ? 0 : text.charAt(at);
        }

        private long value() {
            long v = both();
            while (peek() == '|') {
                at++;
                long r = both();
                v = v != 0 | r != 0 ? 1 : 0;
            }
            return v;
        }

        private long both() {
            long v = held();
            while (peek() == '&') {
                at++;
                long r = held();
                v = v != 0 & r != 0 ? 1 : 0;
            }
            return v;
        }

        private long held() {
            long v = sum();
            char c = peek();
            if (c == '<' || c == '>' || c == '=') {
                at++;
                long r = sum();
                boolean holds = c == '<' ? v < r : c == '>' ? v > r : v == r;
                return holds ? 1 : 0;
            }
            return v;
        }

        private long sum() {
            long v = term();
            for (char c = peek(); c == '+' || c == '-'; c = peek()) {
                at++;
                long r = term();
                v = c == '+' ? v + r : v - r;
            }
            return v;
        }

        private long term() {
            long v = unit();
            for (char c = peek(); c == '*' || c == '/'; c = peek()) {
                at++;
                long r = unit();
                v = c == '*' ? v * r : r == 0 ? 0 : v / r;
            }
            return v;
        }

        private long unit() {
            char c = peek();
            if (fault != NONE) {
                return 0;
            }
            if (at < text.length() && c >= '0' && c <= '9') {
                return number();
            }
            if (c != 0 && "gpswmf".indexOf(c) >= 0) {
                at++;
                return state.seen(c);
            }
            if (c == '!' || c == '-') {
                at++;
                long v = unit();
                return c == '-' ? -v : v == 0 ? 1 : 0;
            }
            if (c == '(') {
                if (depth == 8) {
                    wrong(at, 3);
                    return 0;
                }
                depth++;
                at++;
                long v = value();
                if (peek() == ')') {
                    at++;
                } else {
                    wrong(at, 1);
                }
                depth--;
                return v;
            }
            wrong(at, 1);
            return 0;
        }

        private long number() {
            int first = at;
            while (at < text.length() && text.charAt(at) >= '0' && text.charAt(at) <= '9') {
                at++;
                if (at - first == 7) {
                    wrong(first, 2);
                    return 0;
                }
            }
            return Long.parseLong(text.substring(first, at));
        }
    }

    private State now = new State();
    private final State[] images = new State[2];
    private final int[][] drills = new int[4][];
    private State start;
    private final List<Long> record = new ArrayList<>();

    private static boolean in(long v, long low, long high) {
        return low <= v && v <= high;
    }

    public int room(int outside, int walls, int air) {
        if (!in(outside, 0, 500) || !in(walls, 0, 500) || !in(air, 0, 200)) {
            return BAD;
        }
        now.outside = outside;
        now.walls = walls;
        now.air = air;
        return 1;
    }

    public int heat(int cell, int v) {
        if (!in(cell, 0, 11) || !in(v, 0, 100000)) {
            return -2000000000;
        }
        int was = now.heat[cell];
        now.heat[cell] = v;
        return was;
    }

    public int cooler(int cell, int takes, int aim) {
        if (!in(cell, 0, 11) || !in(takes, 0, 10000) || !in(aim, 0, 5000)) {
            return BAD;
        }
        now.takes[cell] = takes;
        now.aim[cell] = aim;
        return 1;
    }

    public int machine(int cell, int heat, int power, int limit, int feed) {
        if (!in(cell, 0, 11) || !in(heat, 0, 500) || !in(power, 0, 500) || !in(limit, 1, 5000) || !in(feed, 0, 3)) {
            return BAD;
        }
        if (now.machs.size() == 10) {
            return FULL;
        }
        Mach m = new Mach();
        m.cell = cell;
        m.heat = heat;
        m.power = power;
        m.limit = limit;
        m.feed = feed;
        now.machs.add(m);
        return now.machs.size() - 1;
    }

    public int feed(int feed, int v) {
        if (!in(feed, 0, 3) || !in(v, 0, 10000)) {
            return BAD;
        }
        int was = now.feeds[feed];
        now.feeds[feed] = v;
        return was;
    }

    public int net(int v) {
        if (!in(v, 0, 100000)) {
            return BAD;
        }
        int was = now.net;
        now.net = v;
        return was;
    }

    public int price(int minute, int v) {
        if (!in(minute, 0, 23) || !in(v, 0, 1000)) {
            return BAD;
        }
        int was = now.prices[minute];
        now.prices[minute] = v;
        return was;
    }

    public int store(int room, int rate, int high) {
        if (!in(room, 0, 100000) || !in(rate, 0, 10000) || !in(high, 0, 1000)) {
            return BAD;
        }
        if (now.in > room) {
            return NO;
        }
        now.room = room;
        now.rate = rate;
        now.high = high;
        return 1;
    }

    public int late(int d) {
        if (!in(d, 0, 5)) {
            return BAD;
        }
        int was = now.late;
        now.late = d;
        return was;
    }

    public int odds(int a, int b, int lot) {
        if (!in(a, 0, 100) || !in(b, 0, 100)) {
            return BAD;
        }
        now.a = a;
        now.b = b;
        now.lot = lot;
        return 1;
    }

    public int house(int house, int rank, int fee, int credit) {
        if (!in(house, 0, 7) || !in(rank, 0, 99) || !in(fee, 0, 1000) || !in(credit, 0, 1000)) {
            return BAD;
        }
        now.rank[house] = rank;
        now.fee[house] = fee;
        now.credit[house] = credit;
        return 1;
    }

    public int batch(int house, int many, int by, int pin) {
        if (!in(house, 0, 7) || !in(many, 1, 1000) || !in(by, now.minute, 9999)
            || !in(pin, -1, now.machs.size() - 1)) {
            return BAD;
        }
        return job(false, house, 0, by, many, pin);
    }

    public int steady(int house, int from, int to, int wants, int pin) {
        if (!in(house, 0, 7) || !in(from, now.minute, 9999) || !in(to, from, 9999) || !in(wants, 1, 3)
            || !in(pin, -1, now.machs.size() - 1)) {
            return BAD;
        }
        return job(true, house, from, to, wants, pin);
    }

    private int job(boolean steady, int house, int from, int to, int wants, int pin) {
        if (now.jobs.size() == 16) {
            return FULL;
        }
        Job j = new Job();
        j.number = now.jobs.size();
        j.steady = steady;
        j.house = house;
        j.from = from;
        j.to = to;
        j.wants = wants;
        j.pin = pin;
        now.jobs.add(j);
        return j.number;
    }

    public int write(int character) {
        if (!in(character, 0, 127)) {
            return BAD;
        }
        if (now.rules.length() == 60) {
            return FULL;
        }
        now.rules += (char) character;
        return now.rules.length();
    }

    public int erase() {
        int had = now.rules.length();
        now.rules = "";
        return had;
    }

    public int fault() {
        Reader reader = new Reader(now.rules, now);
        reader.read();
        return reader.fault;
    }

    public int minutes(int n) {
        if (!in(n, 1, 60) || now.minute + n > 9999) {
            return BAD;
        }
        int broke = 0;
        for (int i = 0; i < n; i++) {
            broke += now.minute();
            if (start != null && record.size() < 40) {
                record.add(now.sum());
            }
        }
        return broke;
    }

    public int cell(int cell, int what) {
        if (!in(cell, 0, 11) || !in(what, 0, 1)) {
            return -2000000000;
        }
        return what == 0 ? now.heat[cell] : now.gauge(cell);
    }

    public int of(int machine, int what) {
        if (!in(machine, 0, now.machs.size() - 1) || !in(what, 0, 4)) {
            return BAD;
        }
        Mach m = now.machs.get(machine);
        return new int[] {m.work, m.speed, m.trip, m.failed ? 1 : 0, m.cell}[what];
    }

    public int work(int work, int what) {
        if (!in(work, 0, now.jobs.size() - 1) || !in(what, 0, 4)) {
            return BAD;
        }
        Job j = now.jobs.get(work);
        return new int[] {j.state(now.minute), j.done, j.cause, j.house, j.ran}[what];
    }

    public long now(int what) {
        if (!in(what, 0, 7)) {
            return BAD_L;
        }
        return new long[] {now.minute, now.speed, now.in, now.drawn, now.open().size(), now.failedMany(), now.sum(),
            now.coin}[what];
    }

    private int[] bestRow;
    private long bestSum;
    private int bestMany;

    public int placing(int what) {
        boolean isOpen = in(what, 0, now.jobs.size() - 1) && now.jobs.get(what).open(now.minute);
        if (what != NONE && !isOpen) {
            return -2000000000;
        }
        List<Job> open = now.open();
        if (open.size() > 8) {
            return -2100000000;
        }
        bestRow = null;
        go(open, new int[open.size()], 0, 0, 0, 0);
        if (what == NONE) {
            return (int) bestSum;
        }
        return bestRow[open.indexOf(now.jobs.get(what))];
    }

    /** Rows come in their order, so only a better one replaces what was found. */
    private void go(List<Job> open, int[] row, int i, int used, int many, long sum) {
        if (bestRow != null && many + open.size() - i < bestMany) {
            return;
        }
        if (i == open.size()) {
            if (bestRow == null || many > bestMany || many == bestMany && sum < bestSum) {
                bestRow = row.clone();
                bestMany = many;
                bestSum = sum;
            }
            return;
        }
        row[i] = NONE;
        go(open, row, i + 1, used, many, sum);
        int pin = open.get(i).pin;
        for (int m = 0; m < now.machs.size(); m++) {
            Mach mach = now.machs.get(m);
            if ((used >> m & 1) == 0 && mach.trip == 0 && !mach.failed && (pin == NONE || pin == m)) {
                row[i] = m;
                go(open, row, i + 1, used | 1 << m, many + 1, sum + now.gauge(mach.cell));
            }
        }
    }

    public int without(int n) {
        if (!in(n, 1, 30)) {
            return BAD;
        }
        List<Job> open = now.open();
        if (open.size() > 8) {
            return NO;
        }
        int best = NONE;
        for (int set = 0; set < 1 << now.jobs.size(); set++) {
            boolean allOpen = true;
            for (int w = 0; w < now.jobs.size(); w++) {
                allOpen &= (set >> w & 1) == 0 || now.jobs.get(w).open(now.minute);
            }
            if (allOpen && (best == NONE || Integer.bitCount(set) < Integer.bitCount(best)) && keeps(set, n)) {
                best = set;
            }
        }
        return best;
    }

    private boolean keeps(int set, int n) {
        State s = now.copy();
        for (int w = 0; w < s.jobs.size(); w++) {
            s.jobs.get(w).left = (set >> w & 1) == 1;
        }
        return go(s, n) == 0;
    }

    private static int go(State s, int n) {
        int broke = 0;
        for (int i = 0; i < n; i++) {
            broke += s.minute();
        }
        return broke;
    }

    public long other(int what, int v, int n, int which) {
        if (!in(what, 0, 5) || !in(v, -100000, 100000) || what == 5 && !in(v, 0, 11) || !in(n, 1, 30)
            || !in(which, 0, 1)) {
            return BAD_L;
        }
        if (what == 5 && (now.machs.isEmpty() || now.machs.size() == 10)) {
            return NO_L;
        }
        State as = now.copy();
        State s = now.copy();
        switch (what) {
            case 0: s.outside = Math.min(500, Math.max(0, s.outside + v)); break;
            case 1: s.net = Math.min(100000, Math.max(0, s.net + v)); break;
            case 2: s.air = Math.min(200, Math.max(0, s.air + v)); break;
            case 3:
                for (int i = 0; i < 12; i++) {
                    s.aim[i] = Math.min(5000, Math.max(0, s.aim[i] + v));
                }
                break;
            case 4: s.rate = Math.min(10000, Math.max(0, s.rate + v)); break;
            default: {
                Mach like = s.machs.get(0).copy();
                like.cell = v;
                like.trip = 0;
                like.failed = false;
                s.machs.add(like);
            }
        }
        int asBroke = go(as, n);
        int broke = go(s, n);
        return which == 0 ? broke - asBroke : s.coin - as.coin;
    }

    public int fitted() {
        if (now.told.isEmpty()) {
            return NONE;
        }
        BigInteger best = BigInteger.ZERO;
        int answer = NONE;
        for (int a = 1; a <= 20; a++) {
            for (int b = 0; b <= 9; b++) {
                BigInteger product = BigInteger.ONE;
                for (int[] t : now.told) {
                    int odds = a + b * t[0];
                    product = product.multiply(BigInteger.valueOf(t[1] == 1 ? odds : 1000 - odds));
                }
                if (product.compareTo(best) > 0) {
                    best = product;
                    answer = 100 * a + b;
                }
            }
        }
        return answer;
    }

    public int drill(int drill, int outside, int net, int n) {
        if (!in(drill, 0, 3) || !in(outside, 0, 500) || !in(net, 0, 100000) || !in(n, 1, 30)) {
            return BAD;
        }
        drills[drill] = new int[] {outside, net, n};
        return 1;
    }

    public int worst(int what) {
        if (!in(what, 0, 1)) {
            return BAD;
        }
        int most = NONE;
        int worst = NONE;
        for (int i = 0; i < 4; i++) {
            if (drills[i] != null) {
                State s = now.copy();
                s.outside = drills[i][0];
                s.net = drills[i][1];
                int broke = go(s, drills[i][2]);
                s.outside = now.outside;
                s.net = now.net;
                broke += go(s, 5);
                if (broke > most) {
                    most = broke;
                    worst = i;
                }
            }
        }
        return what == 0 ? worst : most;
    }

    public int bill(int house) {
        if (!in(house, 0, 7)) {
            return -100000000;
        }
        int bill = 0;
        for (Job j : now.jobs) {
            if (j.house == house) {
                int state = j.state(now.minute);
                bill += state == 2 ? now.fee[house] : state == 3 ? -now.credit[house] : 0;
            }
        }
        return bill;
    }

    public int begin() {
        int had = record.size();
        record.clear();
        start = now.copy();
        return had;
    }

    public long record(int i) {
        return i < 0 ? NO_L : i >= record.size() ? BAD_L : record.get(i);
    }

    public int forge(int i, long v) {
        if (!in(i, 0, record.size() - 1)) {
            return BAD;
        }
        record.set(i, v);
        return 1;
    }

    public int check() {
        State s = start == null ? null : start.copy();
        for (int i = 0; i < record.size(); i++) {
            s.minute();
            if (s.sum() != record.get(i)) {
                return i;
            }
        }
        return NONE;
    }

    public int image(int i) {
        if (!in(i, 0, 1)) {
            return BAD;
        }
        images[i] = now.copy();
        return 1;
    }

    public int from(int i) {
        if (!in(i, 0, 1)) {
            return BAD;
        }
        if (images[i] == null) {
            return NO;
        }
        now = images[i].copy();
        return 1;
    }

    public int count(int what) {
        if (!in(what, 0, 6)) {
            return BAD;
        }
        int kept = 0;
        for (Job j : now.jobs) {
            kept += j.state(now.minute) == 2 ? 1 : 0;
        }
        return new int[] {now.machs.size(), now.jobs.size(), kept, now.broken(), now.rules.length(), record.size(),
            now.told.size()}[what];
    }

    public long digest() {
        List<Long> row = new ArrayList<>();
        for (int i = 0; i < 7; i++) {
            row.add((long) count(i));
        }
        for (int i = 0; i < 8; i++) {
            row.add(now(i));
        }
        for (int i = 0; i < 24; i++) {
            row.add((long) cell(i / 2, i % 2));
        }
        for (int i = 0; i < 5 * now.machs.size(); i++) {
            row.add((long) of(i / 5, i % 5));
        }
        for (int i = 0; i < 5 * now.jobs.size(); i++) {
            row.add((long) work(i / 5, i % 5));
        }
        for (int i = 0; i < 8; i++) {
            row.add((long) bill(i));
        }
        row.add((long) now.lot);
        long h = 359;
        for (long v : row) {
            h = 31 * h + v;
        }
        return h;
    }
}
