/** Promises 8 and 9, and the terms of the document on entering and on ticks. */
public final class TickTest {
    private static final Class<IllegalArgumentException> ARGUMENT = IllegalArgumentException.class;
    private static final Class<IllegalStateException> STATE = IllegalStateException.class;

    public static void main(String[] args) {
        alongTheLine();
        heldUp();
        wholeRowMoves();
        exampleOfTheDocument();
        passingTakesOneTick();
        lackLeavesTheShelf();
        roundComesBeforeEntering();
        roundsGoByRisingNumbers();
        lastStationsGoFirst();
        twoComeToTheLoop();
        othersPassInTheLoop();
        loopInItsOrder();
        loopBeforeWaiting();
        backCarsDoNotGoAlong();
        backCarLeavesFromTheMiddle();
        onlyOneStationLooped();
        answers();
        tickWrong();
        mostTicks();
        Check.end();
    }

    private static void expectTrace(String what, Lineclock x, int car, String due) {
        Check.same("promise 8: " + what, Snapshot.trace(x, car), due);
    }

    private static Lineclock plainStations(int... takts) {
        Lineclock x = new Lineclock();
        for (int takt : takts) {
            x.addStation(takt, -1, 0, 0);
        }
        return x;
    }

    private static void addCars(Lineclock x, int... wants) {
        for (int each : wants) {
            x.addCar(each);
        }
    }

    private static void alongTheLine() {
        Lineclock x = plainStations(2, 3);
        addCars(x, 0);
        Check.same("promise 8: nobody leaves", x.tick(1), 0);
        Check.same("promise 8: at station 0", x.stationOf(0), 0);
        Check.same("promise 8: the takt to go", x.toGo(0), 2);
        x.tick(1);
        Check.same("promise 8: one less", x.toGo(0), 1);
        x.tick(1);
        Check.same("promise 8: at station 1", x.stationOf(0), 1);
        Check.same("promise 8: its takt", x.toGo(0), 3);
        Check.same("promise 8: two ticks later", x.tick(2), 0);
        Check.same("promise 8: it leaves", x.tick(1), 1);
        Check.same("promise 8: in tick 6", x.leftIn(0), 6);
        expectTrace("the trace", x, 0, "0+1+x");
    }

    private static void heldUp() {
        Lineclock x = plainStations(1, 4, 1);
        addCars(x, 0, 0, 0);
        x.tick(2);
        Check.same("promise 8: the first one goes on", x.stationOf(0), 1);
        Check.same("promise 8: the second one enters", x.carAt(0), 1);
        x.tick(1);
        Check.same("promise 8: no tick to go", x.toGo(1), 0);
        Check.same("promise 8: it stays", x.stationOf(1), 0);
        Check.same("promise 8: and holds up the third one", x.stateOf(2), 'w');
        x.tick(2);
        Check.same("promise 8: still no tick to go", x.toGo(1), 0);
        Check.same("promise 8: still there", x.stationOf(1), 0);
        x.tick(1);
        Check.same("promise 8: it goes on at last", x.stationOf(1), 1);
        Check.same("promise 8: with the whole takt", x.toGo(1), 4);
        Check.same("promise 8: and the third one enters", x.stationOf(2), 0);
    }

    private static void wholeRowMoves() {
        Lineclock x = plainStations(1, 1, 1);
        addCars(x, 0, 0, 0, 0);
        x.tick(3);
        Check.same("promise 8: a full line", x.carAt(0) * 100 + x.carAt(1) * 10 + x.carAt(2), 210);
        Check.same("promise 8: one leaves", x.tick(1), 1);
        Check.same("promise 8: all have moved up", x.carAt(0) * 100 + x.carAt(1) * 10 + x.carAt(2), 321);
    }

    private static void exampleOfTheDocument() {
        Lineclock x = new Lineclock();
        x.addStation(1, -1, 0, 0);
        x.addStation(1, 0, 1, 4);
        x.addStation(1, 1, 1, 4);
        addCars(x, 1);
        x.supply(0, 5);
        x.setPeriod(4);
        x.tick(3);
        expectTrace("before the loop", x, 0, "0+1-2.");
        x.tick(1);
        expectTrace("into the loop and out of it in one tick", x, 0, "0+1-2.L1+");
        Check.same("promise 8: nobody is in the loop", x.looped(), 0);
        Check.same("promise 8: it leaves", x.tick(1), 1);
        expectTrace("the example", x, 0, "0+1-2.L1+x");
    }

    private static void passingTakesOneTick() {
        Lineclock x = new Lineclock();
        x.addStation(9, 2, 1, 4);
        x.addStation(7, 3, 1, 4);
        addCars(x, 8);
        x.supply(2, 9);
        x.supply(3, 9);
        x.setPeriod(1);
        x.tick(1);
        Check.same("promise 8: one tick to go", x.toGo(0), 1);
        Check.same("promise 8: nothing is taken", x.onShelf(0), 4);
        expectTrace("it passes", x, 0, "0.");
        x.tick(1);
        Check.same("promise 8: the takt where it is fitted", x.toGo(0), 7);
        Check.same("promise 8: one is taken", x.onShelf(1), 3);
        Check.same("promise 8: no fault by passing", x.faults(0), 0);
        x.tick(7);
        expectTrace("and leaves", x, 0, "0.1+x");
    }

    private static void lackLeavesTheShelf() {
        Lineclock x = new Lineclock();
        x.addStation(5, 0, 3, 4);
        x.setPeriod(1);
        x.supply(0, 2);
        addCars(x, 1, 1);
        x.tick(1);
        Check.same("promise 8: two are too few", x.onShelf(0), 2);
        Check.same("promise 8: an open fault", x.faults(0), 1);
        Check.same("promise 8: the takt though not fitted", x.toGo(0), 5);
        x.supply(0, 1);
        x.tick(5);
        expectTrace("three are enough, and the loop goes before those that wait", x, 0, "0-L0+");
        Check.same("promise 8: all are taken", x.onShelf(0), 0);
        Check.same("promise 8: no open fault any more", x.faults(0), 0);
        x.tick(5);
        expectTrace("fitted", x, 0, "0-L0+x");
        expectTrace("the next one lacks it", x, 1, "0-");
    }

    private static void roundComesBeforeEntering() {
        Lineclock x = new Lineclock();
        x.addStation(1, 0, 4, 4);
        x.supply(0, 99);
        x.setPeriod(3);
        x.tick(2);
        addCars(x, 1);
        x.tick(1);
        expectTrace("the round of the same tick", x, 0, "0+");
        Check.same("promise 8: filled, then taken", x.onShelf(0), 0);
        Check.same("promise 8: the store", x.inStore(0), 95);
        x.tick(2);
        Check.same("promise 8: no round yet", x.onShelf(0), 0);
        x.tick(1);
        Check.same("promise 8: the next round", x.onShelf(0), 4);
        x.tick(3);
        Check.same("promise 8: a full shelf takes no more", x.inStore(0), 91);
    }

    private static void roundsGoByRisingNumbers() {
        Lineclock x = new Lineclock();
        x.addStation(1, 4, 1, 5);
        x.addStation(1, -1, 1, 9);
        x.addStation(1, 4, 1, 6);
        x.addStation(1, 1, 1, 30);
        x.supply(4, 8);
        x.supply(1, 29);
        x.tick(9);
        Check.same("promise 8: no round before tick 10", x.onShelf(0), 0);
        x.tick(1);
        Check.same("promise 8: the first one is full", x.onShelf(0), 5);
        Check.same("promise 8: no part, no shelf", x.onShelf(1), 0);
        Check.same("promise 8: the rest goes to the next one", x.onShelf(2), 3);
        Check.same("promise 8: as far as there are units", x.onShelf(3), 29);
        Check.same("promise 8: the store is empty", x.inStore(4) + x.inStore(1), 0);
        x.supply(4, 99);
        x.supply(1, 99);
        x.tick(10);
        Check.same("promise 8: only what is missing", x.inStore(4), 96);
        Check.same("promise 8: only one is missing", x.inStore(1), 98);
    }

    /** A car at the last station makes room for the one behind it within the same tick. */
    private static void lastStationsGoFirst() {
        Lineclock x = new Lineclock();
        x.addStation(1, 0, 1, 4);
        x.addStation(2, 1, 1, 4);
        x.addStation(2, -1, 0, 0);
        addCars(x, 2, 1, 0);
        x.tick(2);
        expectTrace("the first one lacks part 1", x, 0, "0.1-");
        x.tick(2);
        expectTrace("the first one at the last station", x, 0, "0.1-2+");
        expectTrace("the second one lacks part 0", x, 1, "0-1.");
        x.tick(2);
        expectTrace("the first one came to the loop and found station 1 taken", x, 0, "0.1-2+L");
        expectTrace("the second one at the last station", x, 1, "0-1.2+");
        expectTrace("the third one follows", x, 2, "0.1.");
        x.tick(1);
        expectTrace("the third one is held up", x, 2, "0.1.");
        Check.same("promise 8: it has no tick to go", x.toGo(2), 0);
        x.tick(1);
        expectTrace("the third one goes on, since the last station goes first", x, 2, "0.1.2+");
        expectTrace("station 1 is free for the first one", x, 0, "0.1-2+L1-");
        expectTrace("and station 0 for the second one", x, 1, "0-1.2+L0-");
        Check.same("promise 8: nobody has left", x.left(), 0);
    }

    /** Two cars come into the loop in one tick: the one from the higher station is ahead in it. */
    private static void twoComeToTheLoop() {
        Lineclock x = new Lineclock();
        x.addStation(1, 0, 1, 4);
        x.addStation(1, 1, 1, 4);
        addCars(x, 2, 1);
        x.tick(4);
        expectTrace("the first one is back at station 1", x, 0, "0.1-L1-");
        expectTrace("the second one is back at station 0", x, 1, "0-1.L0-");
        x.fault(0, 0);
        x.tick(1);
        expectTrace("the one from station 1 enters station 0", x, 0, "0.1-L1-L0+");
        expectTrace("the one from station 0 is behind it", x, 1, "0-1.L0-L");
        Check.same("promise 8: it is in the loop", x.loopedAt(0), 1);
    }

    /** A car in the loop that finds its station taken lets the ones behind it by. */
    private static void othersPassInTheLoop() {
        Lineclock x = plainStations(1);
        x.addStation(6, 0, 1, 4);
        addCars(x, 1, 1, 0);
        x.tick(9);
        x.fault(1, 0);
        x.tick(5);
        expectTrace("station 1 is taken by the third one", x, 2, "0+1.");
        expectTrace("the first one stays in the loop", x, 0, "0+1-L");
        expectTrace("the second one enters station 0", x, 1, "0+1-L0+");
        Check.same("promise 8: one is in the loop", x.looped(), 1);
    }

    /** Cars in the loop are gone through in their order; one that goes round again is behind the others. */
    private static void loopInItsOrder() {
        Lineclock x = new Lineclock();
        x.addStation(1, 0, 1, 4);
        x.addStation(1, 1, 1, 4);
        x.setPeriod(60);
        addCars(x, 1, 1, 2);
        x.tick(3);
        expectTrace("the first one is back at once, before the third one enters", x, 0, "0-1.L0-");
        expectTrace("the second one behind it", x, 1, "0-1.");
        expectTrace("the third one waits", x, 2, "");
        x.tick(1);
        expectTrace("the first one goes round and keeps its place", x, 0, "0-1.L0-L");
        expectTrace("the second one, the first in the loop, enters", x, 1, "0-1.L0-");
        Check.same("promise 8: one in the loop", x.loopedAt(0), 0);
        x.tick(1);
        expectTrace("then the first one again", x, 0, "0-1.L0-L0-");
        Check.same("promise 8: the second one in the loop", x.loopedAt(0), 1);
        Check.same("promise 8: just one in the loop", x.looped(), 1);
        expectTrace("the third one still waits", x, 2, "");
    }

    private static void loopBeforeWaiting() {
        Lineclock x = new Lineclock();
        x.addStation(2, 0, 1, 4);
        addCars(x, 1, 0);
        x.tick(3);
        expectTrace("the loop goes first", x, 0, "0-L0-");
        Check.same("promise 8: the other one waits", x.stateOf(1), 'w');
    }

    private static void backCarsDoNotGoAlong() {
        Lineclock x = plainStations(1, 1, 1);
        addCars(x, 0);
        x.tick(3);
        x.fault(0, 0);
        x.fault(0, 1);
        x.tick(1);
        expectTrace("back at station 0", x, 0, "0+1+2+L0+");
        x.tick(1);
        expectTrace("through the loop, not along the line", x, 0, "0+1+2+L0+L1+");
        Check.isTrue("promise 8: it is back", x.isBack(0));
        Check.same("promise 8: it leaves from station 1", x.tick(1), 1);
    }

    /** A car that is back leaves from a station in the middle though the next one is taken. */
    private static void backCarLeavesFromTheMiddle() {
        Lineclock x = plainStations(1, 9);
        addCars(x, 0, 0);
        x.tick(2);
        x.fault(0, 0);
        x.tick(9);
        expectTrace("back at station 0", x, 0, "0+1+L0+");
        Check.same("promise 8: the next station is taken", x.carAt(1), 1);
        Check.same("promise 8: it leaves all the same", x.tick(1), 1);
        expectTrace("left", x, 0, "0+1+L0+x");
    }

    private static void onlyOneStationLooped() {
        Lineclock x = new Lineclock();
        x.addStation(1, 0, 1, 4);
        addCars(x, 1);
        Check.same("promise 8: nobody leaves with an open fault", x.tick(4), 0);
        expectTrace("round and round", x, 0, "0-L0-L0-L0-");
        x.supply(0, 1);
        x.setPeriod(1);
        Check.same("promise 8: fitted at last", x.tick(2), 1);
        expectTrace("and out", x, 0, "0-L0-L0-L0-L0+x");
    }

    private static void answers() {
        Lineclock x = plainStations(1);
        addCars(x, 0, 0, 0);
        Check.same("promise 9: at first", x.now(), 0);
        Check.same("promise 8: cars of several ticks", x.tick(3), 2);
        Check.same("promise 9: three", x.now(), 3);
        Check.same("promise 8: the last car", x.tick(60), 1);
        Check.same("promise 9: sixty-three", x.now(), 63);
        Check.same("promise 8: no car any more", x.tick(60), 0);
        Lineclock y = new Lineclock();
        y.addStation(1, 0, 1, 4);
        y.tick(1);
        Check.same("promise 8: a line without cars", y.now(), 1);
    }

    private static void tickWrong() {
        Lineclock x = new Lineclock();
        Check.fails("promise 8: no station", x, STATE, () -> x.tick(1));
        Check.fails("promise 8: 0 ticks go before the station", x, ARGUMENT, () -> x.tick(0));
        x.addStation(1, -1, 0, 0);
        addCars(x, 0, 0);
        x.tick(1);
        Check.fails("promise 8: 0 ticks", x, ARGUMENT, () -> x.tick(0));
        Check.fails("promise 8: -1 ticks", x, ARGUMENT, () -> x.tick(-1));
        Check.fails("promise 8: 61 ticks", x, ARGUMENT, () -> x.tick(61));
        Check.fails("promise 8: very many ticks", x, ARGUMENT, () -> x.tick(Integer.MAX_VALUE));
    }

    private static void mostTicks() {
        Lineclock x = plainStations(1);
        for (int i = 0; i < 166; i++) {
            x.tick(60);
        }
        Check.same("promise 9: 9960", x.now(), 9960);
        addCars(x, 0);
        Check.fails("promise 8: 10000 ticks", x, STATE, () -> x.tick(40));
        Check.fails("promise 8: 61 goes before the limit", x, ARGUMENT, () -> x.tick(61));
        Check.same("promise 8: 9999 ticks", x.tick(39), 1);
        Check.same("promise 9: 9999", x.now(), 9999);
        Check.fails("promise 8: one more", x, STATE, () -> x.tick(1));
        addCars(x, 0);
        Check.same("promise 31: the limit of tick does not bind what would be", x.leavesIn(1), 2);
        Check.same("promise 32: nor here", x.leavesByTicks(1), 2);
        Check.same("promise 33: nor here", x.nextToLeave(), 1);
    }
}
