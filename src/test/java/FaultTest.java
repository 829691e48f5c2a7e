import java.util.NoSuchElementException;

/** Promises 7, 24 and 25: open faults, told and found. */
public final class FaultTest {
    private static final Class<IllegalStateException> STATE = IllegalStateException.class;
    private static final Class<NoSuchElementException> MISSING = NoSuchElementException.class;
    private static final Class<UnsupportedOperationException> OPEN = UnsupportedOperationException.class;

    public static void main(String[] args) {
        faultOnTheLine();
        faultInTheLoop();
        faultBack();
        faultWrong();
        faultsAndHasFault();
        Check.end();
    }

    private static Lineclock threeStations() {
        Lineclock x = new Lineclock();
        x.addStation(1, -1, 0, 0);
        x.addStation(1, -1, 0, 0);
        x.addStation(3, -1, 0, 0);
        x.addCar(0);
        return x;
    }

    private static void faultOnTheLine() {
        Lineclock x = threeStations();
        x.tick(3);
        Check.same("promise 7: the first fault", x.fault(0, 1), 1);
        Check.same("promise 7: the second fault", x.fault(0, 0), 2);
        x.tick(3);
        Check.same("promise 7: it goes to the fault with the lowest number", Snapshot.trace(x, 0), "0+1+2+L0+");
        x.tick(1);
        Check.same("promise 7: and to the next one", Snapshot.trace(x, 0), "0+1+2+L0+L1+");
        x.tick(1);
        Check.same("promise 7: and leaves", Snapshot.trace(x, 0), "0+1+2+L0+L1+x");
    }

    /** A car in the loop that waits for one station goes to a lower one when a fault is told there. */
    private static void faultInTheLoop() {
        Lineclock x = new Lineclock();
        x.addStation(1, -1, 0, 0);
        x.addStation(9, -1, 0, 0);
        x.addCar(0);
        x.addCar(0);
        x.tick(2);
        x.fault(0, 0);
        Check.same("promise 7: it stands at station 1", x.stationOf(0), 1);
        x.tick(9);
        Check.same("promise 7: first through the loop", Snapshot.trace(x, 0), "0+1+L0+");
        Check.same("promise 7: the second one moved up", x.stationOf(1), 1);
        Check.same("promise 7: told at a station it has left", x.fault(0, 1), 1);
        x.tick(1);
        Check.same("promise 7: it is in the loop", x.stateOf(0), 'l');
        Check.same("promise 7: told in the loop", x.fault(0, 0), 2);
        x.tick(1);
        Check.same("promise 7: the lower station is free", x.stationOf(0), 0);
        Check.same("promise 7: that fault is mended", x.faults(0), 1);
    }

    private static void faultBack() {
        Lineclock x = new Lineclock();
        x.addStation(2, 3, 1, 4);
        x.addStation(1, 2, 1, 4);
        x.addCar(4);
        x.tick(3);
        Check.same("promise 7: it passed station 0", Snapshot.trace(x, 0), "0.1-L1-");
        Check.isTrue("promise 7: it is back", x.isBack(0));
        Check.fails("promise 7: it stands there with an open fault", x, STATE, () -> x.fault(0, 1));
        Check.same("promise 7: told where it passed", x.fault(0, 0), 2);
        x.tick(1);
        Check.same("promise 7: fitted though it does not want the part", Snapshot.trace(x, 0), "0.1-L1-L0+");
        Check.same("promise 7: the takt, not 1", x.toGo(0), 2);
    }

    private static void faultWrong() {
        Lineclock x = threeStations();
        Check.fails("promise 7: it waits", x, STATE, () -> x.fault(0, 0));
        x.tick(1);
        Check.fails("promise 7: it stands there", x, STATE, () -> x.fault(0, 0));
        Check.fails("promise 7: not entered", x, STATE, () -> x.fault(0, 1));
        Check.fails("promise 7: no such car", x, MISSING, () -> x.fault(1, 0));
        Check.fails("promise 7: car -1", x, MISSING, () -> x.fault(-1, 0));
        Check.fails("promise 7: no such station", x, MISSING, () -> x.fault(0, 3));
        Check.fails("promise 7: station -1", x, MISSING, () -> x.fault(0, -1));
        x.tick(1);
        x.fault(0, 0);
        Check.fails("promise 7: open already", x, OPEN, () -> x.fault(0, 0));
        Check.fails("promise 7: missing goes before all", x, MISSING, () -> x.fault(0, 32));
        x.tick(4);
        Check.same("promise 7: back at station 0", Snapshot.trace(x, 0), "0+1+2+L0+");
        x.tick(1);
        Check.same("promise 7: it has left", x.stateOf(0), 'd');
        Check.fails("promise 7: no fault of a car that has left", x, STATE, () -> x.fault(0, 1));
        Lineclock y = new Lineclock();
        y.addStation(1, 0, 1, 4);
        y.addCar(1);
        y.tick(1);
        Check.fails("promise 7: standing goes before open", y, STATE, () -> y.fault(0, 0));
    }

    private static void faultsAndHasFault() {
        Lineclock x = new Lineclock();
        for (int i = 0; i < 8; i++) {
            x.addStation(1, 5, 1, 4);
        }
        x.addCar(32);
        x.addCar(0);
        Check.same("promise 24: none at first", x.faults(0), 0);
        for (int i = 0; i < 8; i++) {
            Check.isTrue("promise 25: not yet", !x.hasFault(0, i));
            x.tick(1);
            Check.same("promise 24: one more", x.faults(0), i + 1);
            Check.isTrue("promise 25: now", x.hasFault(0, i));
            Check.isTrue("promise 25: not the other car", !x.hasFault(1, i));
        }
        Check.same("promise 24: the other car", x.faults(1), 0);
        x.supply(5, 99);
        x.tick(2);
        Check.same("promise 24: all, until it is fitted", Snapshot.trace(x, 0), "0-1-2-3-4-5-6-7-L0-L0+");
        Check.same("promise 24: one less", x.faults(0), 7);
        Check.isTrue("promise 25: mended", !x.hasFault(0, 0));
        Check.isTrue("promise 25: the others are open", x.hasFault(0, 1) && x.hasFault(0, 7));
        Check.fails("promise 24: no such car", x, MISSING, () -> x.faults(2));
        Check.fails("promise 24: car -1", x, MISSING, () -> x.faults(-1));
        Check.fails("promise 25: no such car", x, MISSING, () -> x.hasFault(2, 0));
        Check.fails("promise 25: car -1", x, MISSING, () -> x.hasFault(-1, 0));
        Check.fails("promise 25: no such station", x, MISSING, () -> x.hasFault(0, 8));
        Check.fails("promise 25: station -1", x, MISSING, () -> x.hasFault(0, -1));
    }
}
