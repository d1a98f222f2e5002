import java.util.ArrayList;
import java.util.List;
import java.util.function.Consumer;

/** One change of each thing that a busy hall (Halls.busy) keeps and its images keep, too. */
final class Changes {
    record Change(String name, Consumer<HotHall> on) {
    }

    private final List<Change> all = new ArrayList<>();

    private Changes() {
    }

    static List<Change> all() {
        Changes changes = new Changes();
        changes.ofTheRoom();
        changes.ofRows();
        changes.ofHousesAndWorks();
        return changes.all;
    }

    private void add(String name, Consumer<HotHall> on) {
        all.add(new Change(name, on));
    }

    private void ofTheRoom() {
        add("OUTSIDE", x -> x.room(231, 37, 83));
        add("WALLS", x -> x.room(130, 138, 83));
        add("AIR", x -> x.room(130, 37, 184));
        add("NET", x -> x.net(139));
        add("ROOM", x -> x.store(39, 14, 11));
        add("RATE", x -> x.store(90, 9, 11));
        add("HIGH", x -> x.store(90, 14, 17));
        add("D", x -> x.late(1));
        add("A", x -> x.odds(60, 1, lot()));
        add("B", x -> x.odds(2, 60, lot()));
        add("the LOT", x -> x.odds(2, 1, 4712));
        add("a machine", x -> x.machine(0, 3, 2, 5000, 0));
    }

    /** A busy hall's own, so that only the odds change. */
    private static int lot() {
        return (int) Halls.lot(Halls.busy());
    }

    private void ofRows() {
        for (int i = 0; i < 12; i++) {
            int cell = i;
            add("HEAT of " + i, x -> x.heat(cell, x.cell(cell, 0) + 1));
            add("what the cooler takes of " + i, x -> x.cooler(cell, 19 + cell, 100 + 5 * cell));
            add("AIM of " + i, x -> x.cooler(cell, 20 + cell, 101 + 5 * cell));
        }
        for (int i = 0; i < 4; i++) {
            int feed = i;
            add("FEED " + i, x -> x.feed(feed, 30 + 9 * feed));
        }
        for (int i = 0; i < 24; i++) {
            int minute = i;
            add("PRICE " + i, x -> x.price(minute, 6 + 7 * minute % 13));
        }
    }

    private void ofHousesAndWorks() {
        for (int i = 0; i < 8; i++) {
            int house = i;
            add("RANK of " + i, x -> x.house(house, 3 * house % 5 == 4 ? 0 : 99, 10 + house, 100 + 7 * house));
            add("FEE of " + i, x -> x.house(house, 3 * house % 5, 11 + house, 100 + 7 * house));
            add("CREDIT of " + i, x -> x.house(house, 3 * house % 5, 10 + house, 101 + 7 * house));
        }
        add("a batch", x -> x.batch(0, 1, 9999, -1));
        add("a batch that is first", x -> x.batch(0, 90, 20, 2));
        add("a steady work", x -> x.steady(0, 9999, 9999, 1, -1));
        add("a steady work that is first", x -> x.steady(0, 13, 17, 3, 1));
        add("a character", x -> x.write(' '));
        add("a character that is a fault", x -> x.write('('));
        add("no rules", x -> x.erase());
        add("other rules", x -> Halls.put(x, "3-(g>190)-w/8"));
        add("a minute", x -> x.minutes(1));
        add("many minutes", x -> x.minutes(45));
    }
}
