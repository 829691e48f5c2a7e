import java.util.NoSuchElementException;

/** Promises 26 to 30: lacks, shelves, the store and the rounds. */
public final class StockTest {
    private static final Class<NoSuchElementException> MISSING = NoSuchElementException.class;

    public static void main(String[] args) {
        lacks();
        shelvesAndStore();
        nextRound();
        Check.end();
    }

    private static void lacks() {
        Lineclock x = new Lineclock();
        x.addStation(1, 2, 1, 4);
        x.addStation(1, 2, 1, 4);
        x.addStation(1, 5, 1, 4);
        x.addStation(1, -1, 0, 0);
        x.addCar(4);
        x.addCar(32);
        for (int i = 0; i < 4; i++) {
            Check.same("promise 26: none at first", x.lacks(i), 0);
        }
        x.tick(5);
        Check.same("promise 26: the first one, round and round", Snapshot.trace(x, 0), "0-1-2.3+L0-");
        Check.same("promise 26: the second one", Snapshot.trace(x, 1), "0.1.2-3+");
        Check.same("promise 26: at station 0 twice", x.lacks(0), 2);
        Check.same("promise 26: at station 1", x.lacks(1), 1);
        Check.same("promise 26: at station 2", x.lacks(2), 1);
        Check.same("promise 26: never at station 3", x.lacks(3), 0);
        Check.same("promise 27: part 2 at both stations", x.lacksOf(2), 3);
        Check.same("promise 27: part 5", x.lacksOf(5), 1);
        Check.same("promise 27: other parts", x.lacksOf(0) + x.lacksOf(1) + x.lacksOf(3) + x.lacksOf(4), 0);
        x.fault(1, 0);
        Check.same("promise 26: a fault that is told does not count", x.lacks(0), 2);
        Check.fails("promise 26: no such station", x, MISSING, () -> x.lacks(4));
        Check.fails("promise 26: station -1", x, MISSING, () -> x.lacks(-1));
        Check.fails("promise 27: no such part", x, MISSING, () -> x.lacksOf(6));
        Check.fails("promise 27: part -1", x, MISSING, () -> x.lacksOf(-1));
    }

    private static void shelvesAndStore() {
        Lineclock x = new Lineclock();
        x.addStation(1, 0, 3, 7);
        x.addStation(1, -1, 3, 7);
        x.supply(0, 9);
        Check.same("promise 28: empty at first", x.onShelf(0), 0);
        Check.same("promise 29: in the store", x.inStore(0), 9);
        x.setPeriod(1);
        x.tick(1);
        Check.same("promise 28: full", x.onShelf(0), 7);
        Check.same("promise 28: no part", x.onShelf(1), 0);
        Check.same("promise 29: the rest", x.inStore(0), 2);
        x.addCar(1);
        x.tick(1);
        Check.same("promise 28: three are taken", x.onShelf(0), 4);
        Check.same("promise 29: not from the store", x.inStore(0), 2);
        x.tick(1);
        Check.same("promise 28: as far as there are units", x.onShelf(0), 6);
        Check.same("promise 29: empty", x.inStore(0), 0);
        Check.same("promise 29: a part of no station", x.inStore(5), 0);
        Check.fails("promise 28: no such station", x, MISSING, () -> x.onShelf(2));
        Check.fails("promise 28: station -1", x, MISSING, () -> x.onShelf(-1));
        Check.fails("promise 29: no such part", x, MISSING, () -> x.inStore(6));
        Check.fails("promise 29: part -1", x, MISSING, () -> x.inStore(-1));
    }

    private static void nextRound() {
        Lineclock x = new Lineclock();
        x.addStation(1, 0, 1, 4);
        x.supply(0, 4);
        Check.same("promise 30: at first", x.nextRound(), 10);
        x.tick(9);
        Check.same("promise 30: one tick before", x.nextRound(), 1);
        Check.same("promise 30: no round yet", x.onShelf(0), 0);
        x.tick(1);
        Check.same("promise 30: the round", x.onShelf(0), 4);
        Check.same("promise 30: a whole period again", x.nextRound(), 10);
        x.setPeriod(4);
        Check.same("promise 30: 12 is the next multiple of 4", x.nextRound(), 2);
        x.setPeriod(1);
        Check.same("promise 30: each tick", x.nextRound(), 1);
        x.tick(7);
        Check.same("promise 30: each tick still", x.nextRound(), 1);
        x.setPeriod(17);
        Check.same("promise 30: 17 is a multiple of 17", x.nextRound(), 17);
        x.setPeriod(60);
        Check.same("promise 30: 60", x.nextRound(), 43);
    }
}
