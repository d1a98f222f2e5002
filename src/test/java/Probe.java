/**
 * What a hall answers when it is asked for all that it keeps, and when it then goes on. Two halls whose answers are all
 * alike are alike as far as calls can tell. The hall is changed by it.
 */
final class Probe {
    private final long[] answers = new long[400];
    private int many;

    private Probe() {
    }

    static long[] answers(HotHall x) {
        Probe probe = new Probe();
        probe.ask(x);
        probe.takeSettings(x);
        probe.goOn(x);
        probe.goBack(x);
        return java.util.Arrays.copyOf(probe.answers, probe.many);
    }

    private void add(long answer) {
        answers[many] = answer;
        many++;
    }

    private void ask(HotHall x) {
        add(x.digest());
        add(x.fault());
        for (int i = 0; i <= 40; i++) {
            add(x.record(i));
        }
        add(x.check());
        add(x.fitted());
        for (int w = -1; w < 16; w++) {
            add(x.placing(w));
        }
        add(x.without(2));
        add(x.without(9));
        int[] more = {60, -70, 50, -40, 9, 7};
        for (int what = 0; what < 6; what++) {
            add(x.other(what, more[what], 20, 0));
            add(x.other(what, more[what], 20, 1));
        }
        add(x.worst(0));
        add(x.worst(1));
    }

    /** Each is put back as it was. */
    private void takeSettings(HotHall x) {
        int was = x.net(0);
        add(was);
        x.net(was);
        was = x.late(0);
        add(was);
        x.late(was);
        for (int f = 0; f < 4; f++) {
            was = x.feed(f, 0);
            add(was);
            x.feed(f, was);
        }
        for (int i = 0; i < 24; i++) {
            was = x.price(i, 0);
            add(was);
            x.price(i, was);
        }
    }

    private void goOn(HotHall x) {
        for (int i = 0; i < 32; i++) {
            add(x.minutes(1));
            add(x.digest());
        }
        add(x.begin());
        cool(x);
        add(x.record(39));
        add(x.write(' '));
    }

    /** Far above each AIM, where coolers take all that they can, and then as long as it takes to get down to it. */
    private void cool(HotHall x) {
        x.room(500, 10, 0);
        for (int c = 0; c < 12; c++) {
            x.heat(c, 20000);
        }
        add(x.minutes(1));
        add(x.digest());
        for (int c = 0; c < 12; c++) {
            x.heat(c, 500);
        }
        add(x.minutes(60));
        add(x.digest());
    }

    private void goBack(HotHall x) {
        for (int i = 0; i < 2; i++) {
            add(x.from(i));
            add(x.digest());
            add(x.worst(0));
            add(x.worst(1));
            add(x.minutes(9));
            add(x.digest());
        }
    }
}
