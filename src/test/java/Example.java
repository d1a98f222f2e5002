/** What README.md shows: two machines, two houses, rules, minutes, and some of what can be asked about them. */
public final class Example {
    public static void main(String[] args) {
        HotHall hall = new HotHall();

        // the room: two machines side by side, a cooler, the net, a dear minute, a store
        int left = hall.machine(0, 50, 40, 300, 0);      // cell, heat, power, limit, feed
        int right = hall.machine(1, 50, 40, 300, 0);
        hall.cooler(0, 30, 150);                         // cell, takes, aim
        hall.net(220);
        hall.price(3, 90);                               // minute, price
        hall.store(200, 60, 50);                         // room, rate, high

        // houses, works, rules
        hall.house(1, 0, 50, 70);                        // house, rank, fee, credit
        hall.house(2, 5, 20, 10);
        int steady = hall.steady(1, 0, 4, 2, left);      // house, from, to, wants, pinned to
        int batch = hall.batch(2, 15, 4, HotHall.NONE);  // house, many, by, pinned to
        String rules = "3 - (g > 220)";
        for (int i = 0; i < rules.length(); i++) {
            hall.write(rules.charAt(i));
        }
        System.out.println("fault of the rules: " + hall.fault());

        // foretold, as the hall is now
        System.out.println("the batch's machine in the best placing: " + hall.placing(batch));
        System.out.println("the least set without which all others are kept: " + hall.without(5));
        System.out.println("more works that break with 170 less from the net: " + hall.other(1, -170, 5, 0));

        // minutes, with an image and a record
        hall.image(0);
        hall.begin();
        System.out.println("works that broke in five minutes: " + hall.minutes(5));
        System.out.println("the steady work: state " + hall.work(steady, 0) + ", done " + hall.work(steady, 1));
        System.out.println("the batch: state " + hall.work(batch, 0) + ", cause " + hall.work(batch, 2));
        System.out.println("heat of cells 0 and 1: " + hall.cell(0, 0) + " and " + hall.cell(1, 0));
        System.out.println("speed of the right machine: " + hall.of(right, 1));
        System.out.println("in the store: " + hall.now(2) + ", coin: " + hall.now(7));
        System.out.println("bills of houses 1 and 2: " + hall.bill(1) + " and " + hall.bill(2));
        System.out.println("the record's first minute that does not come out: " + hall.check());
        hall.from(0);
        System.out.println("the minute from which the hall goes on: " + hall.now(0));

        // what can't be done is answered by a number and changes nothing
        System.out.println("a machine in cell 12: " + hall.machine(12, 50, 40, 300, 0));
        System.out.println("on from an image that was not kept: " + hall.from(1));
    }
}
