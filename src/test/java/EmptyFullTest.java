import java.util.NoSuchElementException;

/** The empty and the full case: no station, no car, nobody anywhere; all stations, all cars, full shelves and rows. */
public final class EmptyFullTest {
    private static final Class<IllegalStateException> STATE = IllegalStateException.class;
    private static final Class<NoSuchElementException> MISSING = NoSuchElementException.class;
    private static final Class<IndexOutOfBoundsException> PLACE = IndexOutOfBoundsException.class;
    private static final Class<ArithmeticException> ARITHMETIC = ArithmeticException.class;

    private static final int ALL_CARS = 30;
    private static final int ALL_STATIONS = 8;

    public static void main(String[] args) {
        newObject();
        stationsWithoutCars();
        carsBeforeTheFirstTick();
        firstTick();
        allCarsWait();
        allStationsTaken();
        fullLoop();
        allFaultsOpen();
        allHaveLeft();
        shelvesAndStore();
        shares();
        Check.end();
    }

    private static void nobody(String what, Lineclock x) {
        Check.same(what + ", promise 11", x.cars(), 0);
        Check.same(what + ", promise 17", x.waiting(), 0);
        Check.same(what + ", promise 19", x.looped(), 0);
        Check.same(what + ", promise 21", x.left(), 0);
        Check.fails(what + ", promise 6", x, MISSING, () -> x.swap(0, 1));
        Check.fails(what + ", promise 7", x, MISSING, () -> x.fault(0, 0));
        Check.fails(what + ", promise 12", x, MISSING, () -> x.stateOf(0));
        Check.fails(what + ", promise 13", x, MISSING, () -> x.stationOf(0));
        Check.fails(what + ", promise 14", x, MISSING, () -> x.toGo(0));
        Check.fails(what + ", promise 16", x, MISSING, () -> x.isBack(0));
        Check.fails(what + ", promise 18", x, PLACE, () -> x.waitingAt(0));
        Check.fails(what + ", promise 20", x, PLACE, () -> x.loopedAt(0));
        Check.fails(what + ", promise 22", x, PLACE, () -> x.leftAt(0));
        Check.fails(what + ", promise 23", x, MISSING, () -> x.leftIn(0));
        Check.fails(what + ", promise 24", x, MISSING, () -> x.faults(0));
        Check.fails(what + ", promise 25", x, MISSING, () -> x.hasFault(0, 0));
        Check.fails(what + ", promise 31", x, MISSING, () -> x.leavesIn(0));
        Check.fails(what + ", promise 32", x, MISSING, () -> x.leavesByTicks(0));
        Check.fails(what + ", promise 33", x, MISSING, () -> x.nextToLeave());
        Check.fails(what + ", promise 34", x, MISSING, () -> x.traceLength(0));
        Check.fails(what + ", promise 35", x, MISSING, () -> x.traceAt(0, 0));
        nothingHappened(what, x);
    }

    private static void nothingHappened(String what, Lineclock x) {
        for (char sign : "+-.Lx".toCharArray()) {
            Check.same(what + ", promise 36, " + sign, x.countOf(sign), 0);
        }
        for (int part = 0; part < 6; part++) {
            Check.same(what + ", promise 27", x.lacksOf(part), 0);
        }
        Check.same(what + ", promise 37", x.fitted(), 0L);
        Check.fails(what + ", promise 38", x, ARITHMETIC, () -> x.lackShare());
        Check.fails(what + ", promise 39", x, ARITHMETIC, () -> x.meanTime());
    }

    private static void newObject() {
        Lineclock x = new Lineclock();
        nobody("a new object", x);
        Check.same("a new object, promise 9", x.now(), 0);
        Check.same("a new object, promise 10", x.stations(), 0);
        Check.same("a new object, promise 30", x.nextRound(), 10);
        Check.fails("a new object, promise 5", x, STATE, () -> x.addCar(0));
        Check.fails("a new object, promise 8", x, STATE, () -> x.tick(1));
        Check.fails("a new object, promise 15", x, MISSING, () -> x.carAt(0));
        Check.fails("a new object, promise 26", x, MISSING, () -> x.lacks(0));
        Check.fails("a new object, promise 28", x, MISSING, () -> x.onShelf(0));
        for (int part = 0; part < 6; part++) {
            Check.same("a new object, promise 29", x.inStore(part), 0);
        }
        Check.same("a new object, promise 3", x.supply(0, 99), 99);
        Check.same("a new object, promise 4", x.setPeriod(9), 10);
        Check.same("a new object, promise 2", x.addStation(1, 0, 1, 4), 0);
    }

    private static void stationsWithoutCars() {
        Lineclock x = new Lineclock();
        for (int i = 0; i < ALL_STATIONS; i++) {
            x.addStation(1, i % 4, 1, 4);
            x.supply(i % 4, 1);
        }
        for (int ticks : new int[] {1, 9, 60}) {
            nobody("no car", x);
            for (int i = 0; i < ALL_STATIONS; i++) {
                int station = i;
                Check.fails("promise 15: nobody there", x, STATE, () -> x.carAt(station));
                Check.same("promise 26: nobody lacked", x.lacks(station), 0);
            }
            Check.same("promise 8: nobody leaves", x.tick(ticks), 0);
        }
        Check.same("promise 9: 70", x.now(), 70);
        Check.same("promise 28: the rounds go on without cars", x.onShelf(0) + x.onShelf(4), 2);
    }

    private static void carsBeforeTheFirstTick() {
        Lineclock x = new Lineclock();
        x.addStation(1, 0, 1, 4);
        x.addCar(1);
        x.addCar(0);
        nothingHappened("before the first tick", x);
        for (int i = 0; i < 2; i++) {
            int car = i;
            Check.same("promise 12: waits", x.stateOf(car), 'w');
            Check.same("promise 18: in its place", x.waitingAt(car), car);
            Check.same("promise 24: no fault", x.faults(car), 0);
            Check.isTrue("promise 25: no fault", !x.hasFault(car, 0));
            Check.isTrue("promise 16: not back", !x.isBack(car));
            Check.same("promise 34: empty", x.traceLength(car), 0);
            Check.fails("promise 35: empty", x, PLACE, () -> x.traceAt(car, 0));
            Check.fails("promise 23: not left", x, STATE, () -> x.leftIn(car));
        }
        Check.fails("promise 18: two wait", x, PLACE, () -> x.waitingAt(2));
        Check.fails("promise 15: nobody there", x, STATE, () -> x.carAt(0));
    }

    /** With the first entry the share is there; the mean only when the first one leaves, in tick 2 at the earliest. */
    private static void firstTick() {
        Lineclock x = new Lineclock();
        x.addStation(1, -1, 0, 0);
        x.addCar(0);
        Check.same("promise 8: nobody leaves", x.tick(1), 0);
        Check.same("promise 38: after the first entry", x.lackShare(), 0.0f);
        Check.fails("promise 39: none has left", x, ARITHMETIC, () -> x.meanTime());
        Check.fails("promise 22: none has left", x, PLACE, () -> x.leftAt(0));
        Check.fails("promise 18: none waits any more", x, PLACE, () -> x.waitingAt(0));
        Check.same("promise 8: the first one leaves", x.tick(1), 1);
        Check.same("promise 39: one tick", x.meanTime(), 1.0);
        Check.same("promise 22: the first one", x.leftAt(0), 0);
        Check.same("promise 23: in tick 2", x.leftIn(0), 2);
        Check.fails("promise 33: nobody is there any more", x, MISSING, () -> x.nextToLeave());
    }

    private static Lineclock fullLine(int wants) {
        Lineclock x = new Lineclock();
        for (int i = 0; i < ALL_STATIONS; i++) {
            x.addStation(1, i < 6 ? i : -1, 1, 4);
        }
        for (int i = 0; i < ALL_CARS; i++) {
            x.addCar(wants);
        }
        return x;
    }

    private static void allCarsWait() {
        Lineclock x = fullLine(0);
        Check.same("promise 17: all", x.waiting(), ALL_CARS);
        Check.same("promise 18: the last one", x.waitingAt(29), 29);
        Check.fails("promise 18: one beyond", x, PLACE, () -> x.waitingAt(ALL_CARS));
        Check.same("promise 6: first and last", x.swap(0, 29), 29);
        Check.same("promise 18: the first place", x.waitingAt(0), 29);
        Check.same("promise 18: the last place", x.waitingAt(29), 0);
        Check.same("promise 6: back again, from the other side", x.swap(0, 29), 0);
        for (int i = 0; i + 1 < ALL_CARS; i++) {
            Check.same("promise 6: neighbours", x.swap(0, x.waitingAt(i + 1)), i + 1);
        }
        for (int i = 0; i < ALL_CARS; i++) {
            Check.same("promise 18: all moved up by one", x.waitingAt(i), (i + 1) % ALL_CARS);
        }
        x.tick(ALL_CARS);
        Check.same("promise 17: nobody", x.waiting(), 0);
        Check.fails("promise 18: nobody", x, PLACE, () -> x.waitingAt(0));
        Check.same("promise 13: the last one entered last", x.stationOf(0), 0);
    }

    private static void allStationsTaken() {
        Lineclock x = fullLine(0);
        x.tick(ALL_STATIONS);
        for (int i = 0; i < ALL_STATIONS; i++) {
            Check.same("promise 15: station " + i, x.carAt(i), 7 - i);
            Check.same("promise 13: its car", x.stationOf(7 - i), i);
            Check.same("promise 14: its car", x.toGo(7 - i), 1);
        }
        Check.same("promise 17: the rest", x.waiting(), 22);
        Check.same("promise 8: each tick one leaves", x.tick(22), 22);
        Check.same("promise 17: nobody", x.waiting(), 0);
        Check.same("promise 8: the last eight", x.tick(8), 8);
    }

    /** The loop can't hold all cars when a tick has passed: with all stations free one of them enters. */
    private static void fullLoop() {
        Lineclock x = new Lineclock();
        x.addStation(1, -1, 0, 0);
        x.addStation(1, 0, 1, 4);
        for (int i = 0; i < ALL_CARS; i++) {
            x.addCar(1);
        }
        x.tick(2);
        Check.same("promise 19: nobody", x.looped(), 0);
        for (int count = 1; count < ALL_CARS; count++) {
            int size = count;
            x.tick(1);
            Check.same("promise 19: " + count, x.looped(), count);
            Check.same("promise 20: the first one", x.loopedAt(0), 0);
            Check.same("promise 20: the last one", x.loopedAt(count - 1), count - 1);
            Check.fails("promise 20: one beyond " + count, x, PLACE, () -> x.loopedAt(size));
        }
        Check.same("promise 13: the last car of all", x.stationOf(29), 1);
        x.tick(1);
        Check.same("promise 19: one in, one out", x.looped(), 29);
        Check.same("promise 20: the last one behind all", x.loopedAt(28), 29);
        Check.same("promise 20: the others have moved up", x.loopedAt(0), 1);
        Check.same("promise 13: the first one is back", x.stationOf(0), 1);
        x.supply(0, 30);
        x.setPeriod(1);
        Check.same("promise 8: one after the other", x.tick(30), 29);
        Check.same("promise 19: only the one that had lacked again is left", x.looped(), 0);
        Check.same("promise 8: and it leaves", x.tick(1), 1);
    }

    private static void allFaultsOpen() {
        Lineclock x = new Lineclock();
        for (int i = 0; i < ALL_STATIONS; i++) {
            x.addStation(1, 3, 1, 4);
        }
        x.addCar(8);
        x.tick(8);
        Check.same("promise 24: all", x.faults(0), 8);
        Check.same("promise 26: each once", x.lacks(0) + x.lacks(7), 2);
        Check.same("promise 27: all stations of the part", x.lacksOf(3), 8);
        x.tick(1);
        Check.same("promise 24: still one at each", x.faults(0), 8);
        Check.same("promise 26: the first one twice", x.lacks(0), 2);
        x.supply(3, 99);
        x.setPeriod(1);
        for (int i = 0; i < ALL_STATIONS; i++) {
            Check.same("promise 8: not with an open fault", x.tick(1), 0);
            Check.same("promise 24: one less", x.faults(0), 7 - i);
            Check.isTrue("promise 25: no longer", !x.hasFault(0, i));
        }
        Check.same("promise 8: without open faults", x.tick(1), 1);
        Check.same("promise 24: none", x.faults(0), 0);
    }

    private static void allHaveLeft() {
        Lineclock x = fullLine(0);
        Check.same("promise 8: all in 38 ticks", x.tick(38), ALL_CARS);
        Check.same("promise 21: all", x.left(), ALL_CARS);
        for (int i = 0; i < ALL_CARS; i++) {
            int car = i;
            Check.same("promise 22: in their order", x.leftAt(i), i);
            Check.same("promise 23: one each tick", x.leftIn(i), 9 + i);
            Check.fails("promise 31: has left", x, STATE, () -> x.leavesIn(car));
            Check.fails("promise 32: has left", x, STATE, () -> x.leavesByTicks(car));
        }
        Check.fails("promise 22: one beyond", x, PLACE, () -> x.leftAt(ALL_CARS));
        Check.fails("promise 33: nobody is there", x, MISSING, () -> x.nextToLeave());
        Check.same("promise 39: eight each", x.meanTime(), 8.0);
        Check.same("promise 36: x", x.countOf('x'), ALL_CARS);
        Check.same("promise 36: + at both stations without a part", x.countOf('+'), 2 * ALL_CARS);
        Check.same("promise 36: . at the others", x.countOf('.'), 6 * ALL_CARS);
        Check.same("promise 8: nobody else", x.tick(60), 0);
    }

    private static void shelvesAndStore() {
        Lineclock x = new Lineclock();
        x.addStation(1, 0, 1, 30);
        x.addStation(1, 0, 1, 4);
        x.tick(10);
        Check.same("promise 8: a round from an empty store", x.onShelf(0) + x.onShelf(1), 0);
        x.supply(0, 30);
        x.tick(10);
        Check.same("promise 8: just as much as the first one takes", x.onShelf(0), 30);
        Check.same("promise 8: nothing for the second one", x.onShelf(1), 0);
        Check.same("promise 29: empty", x.inStore(0), 0);
        x.supply(0, 4);
        x.tick(10);
        Check.same("promise 8: full already", x.onShelf(0), 30);
        Check.same("promise 8: all to the second one", x.onShelf(1), 4);
        for (int i = 0; i < 10; i++) {
            x.supply(0, 99);
        }
        x.supply(0, 9);
        x.tick(60);
        Check.same("promise 29: full shelves take nothing", x.inStore(0), 999);
        Check.same("promise 28: full", x.onShelf(0) * 100 + x.onShelf(1), 3004);
        x.addCar(1);
        x.tick(2);
        Check.same("promise 28: one less on each", x.onShelf(0) * 100 + x.onShelf(1), 2903);
        Check.same("promise 29: not before the round", x.inStore(0), 999);
        x.tick(8);
        Check.same("promise 29: one for each", x.inStore(0), 997);
    }

    private static void shares() {
        Lineclock x = new Lineclock();
        x.addStation(1, 0, 1, 4);
        x.addCar(1);
        x.tick(1);
        Check.same("promise 38: nothing but lacks", x.lackShare(), 1.0f);
        Lineclock y = new Lineclock();
        y.addStation(1, 0, 1, 4);
        y.addCar(2);
        y.tick(1);
        Check.same("promise 38: nothing but passing", y.lackShare(), 0.0f);
        y.tick(1);
        Check.same("promise 38: not by leaving", y.lackShare(), 0.0f);
    }
}
