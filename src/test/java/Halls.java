/** Halls that tests start from, and small things that they do again and again. */
final class Halls {
    static final int BAD_HEAT = -2000000000;
    static final int NO_PLACING = -2100000000;
    static final int BAD_BILL = -100000000;
    static final long BAD_LONG = -2000000000000000000L;
    static final long NO_LONG = -2100000000000000000L;
    static final int MOST = Integer.MAX_VALUE;
    static final int LEAST = Integer.MIN_VALUE;

    private static final int LOT_FACTOR = 1103515245;
    private static final int LOT_MORE = 12345;

    private Halls() {
    }

    /** A hall in which heat stays where it is. */
    static HotHall still() {
        HotHall x = new HotHall();
        x.room(0, 0, 0);
        return x;
    }

    /** A still hall with machine 0, which makes and draws nothing, in cell 0. */
    static HotHall one() {
        HotHall x = still();
        x.machine(0, 0, 0, 5000, 0);
        return x;
    }

    /** A still hall with so many machines in cells 0, 1 and so on, which draw 10 a speed from feed 0. */
    static HotHall row(int machines) {
        HotHall x = still();
        for (int m = 0; m < machines; m++) {
            x.machine(m, 0, 10, 5000, 0);
        }
        return x;
    }

    static void put(HotHall x, String text) {
        x.erase();
        for (int i = 0; i < text.length(); i++) {
            x.write(text.charAt(i));
        }
    }

    /** More minutes than one call takes: how many works broke. */
    static int go(HotHall x, int n) {
        int broke = 0;
        for (int left = n; left > 0; left -= 60) {
            broke += x.minutes(Math.min(left, 60));
        }
        return broke;
    }

    static int nextLot(int lot) {
        return lot * LOT_FACTOR + LOT_MORE;
    }

    /** A lot whose next one has these bits 16 on (0 .. 65535). */
    static int lotFor(int bits) {
        int inverse = LOT_FACTOR;
        for (int i = 0; i < 5; i++) {
            inverse *= 2 - LOT_FACTOR * inverse;
        }
        return ((bits << 16) - LOT_MORE) * inverse;
    }

    /** The lot is what the digest ends with; image 0 is used. */
    static long lot(HotHall x) {
        long was = x.digest();
        x.image(0);
        x.odds(0, 0, 0);
        long without = x.digest();
        x.from(0);
        return was - without;
    }

    /** Something of everything: six machines, 12 works, rules, drills, both images, a record of 12 minutes. */
    static HotHall busy() {
        HotHall x = new HotHall();
        x.room(130, 37, 83);
        for (int c = 0; c < 12; c++) {
            x.heat(c, 150 + 17 * c);
            x.cooler(c, 20 + c, 100 + 5 * c);
        }
        for (int m = 0; m < 6; m++) {
            x.machine((5 * m + 1) % 12, 20 + 7 * m, 11 + 3 * m, 150 + 20 * m, m % 4);
        }
        settings(x);
        for (int w = 0; w < 12; w++) {
            int pin = w % 3 == 2 ? w / 2 : -1;
            if (w % 4 == 3) {
                x.steady(w % 8, w, w + 6, 1 + w % 3, pin);
            } else {
                x.batch(w % 8, 5 + 4 * w, 4 + 2 * w, pin);
            }
        }
        put(x, "3-(g>190)-w/9");
        x.drill(1, 400, 40, 12);
        x.drill(3, 20, 30, 7);
        x.image(0);
        x.begin();
        x.minutes(5);
        x.image(1);
        x.minutes(7);
        return x;
    }

    /** Ten machines, 16 works (most of them open), 60 characters, a record of 40 minutes. */
    static HotHall full() {
        HotHall x = new HotHall();
        x.room(90, 25, 110);
        for (int m = 0; m < 10; m++) {
            x.machine((7 * m + 2) % 12, 15 + 4 * m, 9 + 2 * m, 160 + 15 * m, (m + 1) % 4);
        }
        settings(x);
        for (int w = 0; w < 16; w++) {
            int pin = w % 3 == 1 ? w / 2 : -1;
            if (w % 5 == 4) {
                x.steady(w % 8, 38 + w, 45 + w, 1 + w % 3, pin);
            } else {
                x.batch(w % 8, 30 + 60 * w, 35 + 4 * w, pin);
            }
        }
        put(x, "3 - (g > 290) - (w > 12) + (p < 9) * (s > 20) - f / 4     ");
        x.write('+');
        x.write('0');
        for (int i = 0; i < 4; i++) {
            x.drill(i, 100 * i, 40 + 30 * i, 5 + i);
        }
        x.begin();
        x.image(0);
        x.minutes(44);
        x.image(1);
        return x;
    }

    private static void settings(HotHall x) {
        for (int f = 0; f < 4; f++) {
            x.feed(f, 90 + 9 * f);
        }
        x.net(170);
        for (int i = 0; i < 24; i++) {
            x.price(i, 5 + 7 * i % 13);
        }
        x.store(90, 14, 11);
        x.late(2);
        x.odds(2, 1, 4711);
        for (int h = 0; h < 8; h++) {
            x.house(h, 3 * h % 5, 10 + h, 100 + 7 * h);
        }
    }
}
