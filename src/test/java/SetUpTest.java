import java.util.NoSuchElementException;

/** Promises 1 to 6: a new object, stations, the store, the period, cars and their order. */
public final class SetUpTest {
    private static final Class<IllegalArgumentException> ARGUMENT = IllegalArgumentException.class;
    private static final Class<IllegalStateException> STATE = IllegalStateException.class;
    private static final Class<NoSuchElementException> MISSING = NoSuchElementException.class;

    public static void main(String[] args) {
        newObject();
        addStation();
        addStationWrong();
        supply();
        supplyWrong();
        setPeriod();
        addCar();
        addCarWrong();
        swap();
        swapWrong();
        Check.end();
    }

    private static void newObject() {
        Lineclock x = new Lineclock();
        Check.same("promise 1: now()", x.now(), 0);
        Check.same("promise 1: stations()", x.stations(), 0);
        Check.same("promise 1: cars()", x.cars(), 0);
        Check.same("promise 1: waiting()", x.waiting(), 0);
        Check.same("promise 1: looped()", x.looped(), 0);
        Check.same("promise 1: left()", x.left(), 0);
        Check.same("promise 1: nextRound()", x.nextRound(), 10);
        Check.same("promise 1: fitted()", x.fitted(), 0L);
        for (int part = 0; part < 6; part++) {
            Check.same("promise 1: inStore", x.inStore(part), 0);
        }
        Lineclock y = new Lineclock();
        y.addStation(1, -1, 0, 0);
        y.addCar(0);
        Check.same("promise 1: another object stays empty", x.stations() + x.cars(), 0);
    }

    private static void addStation() {
        Lineclock x = new Lineclock();
        Check.same("promise 2: lowest values", x.addStation(1, 0, 1, 4), 0);
        Check.same("promise 2: highest values", x.addStation(9, 5, 4, 30), 1);
        Check.same("promise 2: amount and room are free without a part",
                x.addStation(5, -1, Integer.MIN_VALUE, Integer.MAX_VALUE), 2);
        Check.same("promise 2: an empty shelf", x.onShelf(0) + x.onShelf(1) + x.onShelf(2), 0);
        for (int number = 3; number < 8; number++) {
            Check.same("promise 2: the number", x.addStation(2, -1, 0, 0), number);
        }
        Check.same("promise 2: stations()", x.stations(), 8);
        Check.fails("promise 2: a ninth station", x, STATE, () -> x.addStation(1, -1, 0, 0));
        Check.fails("promise 2: wrong takt goes before the ninth", x, ARGUMENT, () -> x.addStation(0, -1, 0, 0));
    }

    private static void addStationWrong() {
        Lineclock x = new Lineclock();
        Check.fails("promise 2: takt 0", x, ARGUMENT, () -> x.addStation(0, -1, 0, 0));
        Check.fails("promise 2: takt 10", x, ARGUMENT, () -> x.addStation(10, -1, 0, 0));
        Check.fails("promise 2: part -2", x, ARGUMENT, () -> x.addStation(1, -2, 1, 4));
        Check.fails("promise 2: part 6", x, ARGUMENT, () -> x.addStation(1, 6, 1, 4));
        Check.fails("promise 2: amount 0", x, ARGUMENT, () -> x.addStation(1, 0, 0, 4));
        Check.fails("promise 2: amount 5", x, ARGUMENT, () -> x.addStation(1, 0, 5, 9));
        Check.fails("promise 2: room 3", x, ARGUMENT, () -> x.addStation(1, 0, 1, 3));
        Check.fails("promise 2: room 31", x, ARGUMENT, () -> x.addStation(1, 0, 1, 31));
        Check.fails("promise 2: far out", x, ARGUMENT, () -> x.addStation(Integer.MAX_VALUE, 0, 1, 4));
        x.addStation(1, -1, 0, 0);
        x.addCar(0);
        Check.same("promise 2: cars do not hinder", x.addStation(1, -1, 0, 0), 1);
        x.tick(1);
        Check.fails("promise 2: a tick has passed", x, STATE, () -> x.addStation(1, -1, 0, 0));
        Check.fails("promise 2: wrong room goes before the tick", x, ARGUMENT, () -> x.addStation(1, 0, 1, 3));
    }

    private static void supply() {
        Lineclock x = new Lineclock();
        Check.same("promise 3: one unit", x.supply(0, 1), 1);
        Check.same("promise 3: 99 units more", x.supply(0, 99), 100);
        Check.same("promise 3: each part counts alone", x.supply(5, 7), 7);
        for (int i = 0; i < 9; i++) {
            x.supply(0, 99);
        }
        Check.same("promise 3: 991 units", x.inStore(0), 991);
        Check.fails("promise 3: 1000 units", x, STATE, () -> x.supply(0, 9));
        Check.same("promise 3: just 999", x.supply(0, 8), 999);
        Check.fails("promise 3: one too many", x, STATE, () -> x.supply(0, 1));
        Check.same("promise 3: the other part", x.inStore(5), 7);
        Check.same("promise 3: nothing elsewhere", x.inStore(1) + x.inStore(2) + x.inStore(3) + x.inStore(4), 0);
    }

    private static void supplyWrong() {
        Lineclock x = new Lineclock();
        Check.fails("promise 3: part -1", x, MISSING, () -> x.supply(-1, 1));
        Check.fails("promise 3: part 6", x, MISSING, () -> x.supply(6, 1));
        Check.fails("promise 3: part goes before units", x, MISSING, () -> x.supply(6, 0));
        Check.fails("promise 3: 0 units", x, ARGUMENT, () -> x.supply(0, 0));
        Check.fails("promise 3: 100 units", x, ARGUMENT, () -> x.supply(0, 100));
        Check.fails("promise 3: far too many units", x, ARGUMENT, () -> x.supply(0, Integer.MAX_VALUE));
        for (int i = 0; i < 10; i++) {
            x.supply(3, 99);
        }
        Check.fails("promise 3: units go before the limit", x, ARGUMENT, () -> x.supply(3, 100));
    }

    private static void setPeriod() {
        Lineclock x = new Lineclock();
        Check.same("promise 4: at first 10", x.setPeriod(60), 10);
        Check.same("promise 4: the one before", x.setPeriod(1), 60);
        Check.same("promise 4: the one before again", x.setPeriod(7), 1);
        Check.same("promise 4: the round", x.nextRound(), 7);
        Check.fails("promise 4: period 0", x, ARGUMENT, () -> x.setPeriod(0));
        Check.fails("promise 4: period 61", x, ARGUMENT, () -> x.setPeriod(61));
        Check.fails("promise 4: period -1", x, ARGUMENT, () -> x.setPeriod(-1));
        x.addStation(1, 0, 1, 10);
        x.supply(0, 50);
        x.tick(6);
        Check.same("promise 4: no round yet", x.onShelf(0), 0);
        x.setPeriod(3);
        x.tick(2);
        Check.same("promise 4: 7 and 8 are no multiples of 3", x.onShelf(0), 0);
        x.tick(1);
        Check.same("promise 4: 9 is a multiple of 3", x.onShelf(0), 10);
    }

    private static void addCar() {
        Lineclock x = new Lineclock();
        x.addStation(1, -1, 0, 0);
        Check.same("promise 5: no wants", x.addCar(0), 0);
        Check.same("promise 5: all wants", x.addCar(63), 1);
        Check.same("promise 5: it waits", x.stateOf(1), 'w');
        Check.same("promise 5: it is the last one", x.waitingAt(1), 1);
        for (int number = 2; number < 30; number++) {
            Check.same("promise 5: the number", x.addCar(number), number);
        }
        Check.fails("promise 5: a car too many", x, STATE, () -> x.addCar(0));
        Check.fails("promise 5: wants go before the number of cars", x, ARGUMENT, () -> x.addCar(64));
        x.tick(60);
        Check.same("promise 5: all have left", x.left(), 30);
        Check.fails("promise 5: those that left count too", x, STATE, () -> x.addCar(0));
    }

    private static void addCarWrong() {
        Lineclock x = new Lineclock();
        Check.fails("promise 5: no station", x, STATE, () -> x.addCar(0));
        Check.fails("promise 5: wants go before the station", x, ARGUMENT, () -> x.addCar(-1));
        x.addStation(1, -1, 0, 0);
        Check.fails("promise 5: wants -1", x, ARGUMENT, () -> x.addCar(-1));
        Check.fails("promise 5: wants 64", x, ARGUMENT, () -> x.addCar(64));
        x.tick(60);
        Check.same("promise 5: ticks do not hinder", x.addCar(0), 0);
    }

    private static void swap() {
        Lineclock x = new Lineclock();
        x.addStation(5, -1, 0, 0);
        for (int i = 0; i < 4; i++) {
            x.addCar(0);
        }
        Check.same("promise 6: the place of the first then", x.swap(0, 3), 3);
        Check.same("promise 6: the order", order(x), "3120");
        Check.same("promise 6: in the middle", x.swap(2, 1), 1);
        Check.same("promise 6: the order again", order(x), "3210");
        x.tick(1);
        Check.same("promise 6: the first one enters", x.carAt(0), 3);
        Check.same("promise 6: places count from the first that waits", x.swap(0, 2), 0);
        Check.same("promise 6: the order of the rest", order(x), "012");
    }

    private static void swapWrong() {
        Lineclock x = new Lineclock();
        x.addStation(1, -1, 0, 0);
        x.addCar(0);
        x.addCar(0);
        x.addCar(0);
        x.tick(1);
        Check.fails("promise 6: no such car", x, MISSING, () -> x.swap(3, 1));
        Check.fails("promise 6: no such other", x, MISSING, () -> x.swap(1, -1));
        Check.fails("promise 6: missing goes before same", x, MISSING, () -> x.swap(9, 9));
        Check.fails("promise 6: missing goes before waiting", x, MISSING, () -> x.swap(0, 3));
        Check.fails("promise 6: the same", x, ARGUMENT, () -> x.swap(1, 1));
        Check.fails("promise 6: same goes before waiting", x, ARGUMENT, () -> x.swap(0, 0));
        Check.fails("promise 6: the first stands", x, STATE, () -> x.swap(0, 1));
        Check.fails("promise 6: the other stands", x, STATE, () -> x.swap(1, 0));
        x.tick(2);
        Check.fails("promise 6: one has left", x, STATE, () -> x.swap(2, 0));
    }

    private static String order(Lineclock x) {
        StringBuilder text = new StringBuilder();
        for (int place = 0; place < x.waiting(); place++) {
            text.append(x.waitingAt(place));
        }
        return text.toString();
    }
}
