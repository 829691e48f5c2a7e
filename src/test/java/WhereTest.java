import java.util.NoSuchElementException;

/** Promises 10 to 23: where the cars are, and the orders in which they wait, loop and have left. */
public final class WhereTest {
    private static final Class<IllegalStateException> STATE = IllegalStateException.class;
    private static final Class<NoSuchElementException> MISSING = NoSuchElementException.class;
    private static final Class<IndexOutOfBoundsException> PLACE = IndexOutOfBoundsException.class;

    public static void main(String[] args) {
        counts();
        states();
        standing();
        carAt();
        isBack();
        orders();
        orderOfLeaving();
        leftIn();
        Check.end();
    }

    /** Cars 0 and 1 take long at station 1, since they lack its part; cars 2 and 3 only pass. */
    private static Lineclock someLine() {
        Lineclock x = new Lineclock();
        x.addStation(1, -1, 0, 0);
        x.addStation(6, 0, 1, 4);
        x.addCar(1);
        x.addCar(1);
        x.addCar(2);
        x.addCar(4);
        return x;
    }

    private static void counts() {
        Lineclock x = someLine();
        Check.same("promise 10", x.stations(), 2);
        x.addStation(1, -1, 0, 0);
        Check.same("promise 10: one more", x.stations(), 3);
        Check.same("promise 11", x.cars(), 4);
        x.addCar(0);
        Check.same("promise 11: one more", x.cars(), 5);
        x.tick(60);
        Check.same("promise 11: those that have left too", x.cars(), 5);
        Check.isTrue("promise 11: some have", x.left() > 0);
    }

    private static void states() {
        Lineclock x = someLine();
        Check.same("promise 12: waits", x.stateOf(0), 'w');
        x.tick(1);
        Check.same("promise 12: stands", x.stateOf(0), 's');
        Check.same("promise 12: waits on", x.stateOf(1), 'w');
        x.tick(7);
        Check.same("promise 12: in the loop, since station 1 is taken", Snapshot.trace(x, 0), "0+1-L");
        Check.same("promise 12: in the loop", x.stateOf(0), 'l');
        x.tick(7);
        Check.same("promise 12: has left", x.stateOf(2), 'd');
        Check.fails("promise 12: no such car", x, MISSING, () -> x.stateOf(4));
        Check.fails("promise 12: car -1", x, MISSING, () -> x.stateOf(-1));
        Check.fails("promise 12: car 30", x, MISSING, () -> x.stateOf(30));
    }

    private static void standing() {
        Lineclock x = someLine();
        Check.fails("promise 13: it waits", x, STATE, () -> x.stationOf(0));
        Check.fails("promise 14: it waits", x, STATE, () -> x.toGo(0));
        x.tick(1);
        Check.same("promise 13: station 0", x.stationOf(0), 0);
        Check.same("promise 14: one tick", x.toGo(0), 1);
        x.tick(2);
        Check.same("promise 13: station 1", x.stationOf(0), 1);
        Check.same("promise 14: five ticks", x.toGo(0), 5);
        Check.same("promise 14: held up", x.toGo(1), 0);
        x.tick(5);
        Check.fails("promise 13: in the loop", x, STATE, () -> x.stationOf(0));
        Check.fails("promise 14: in the loop", x, STATE, () -> x.toGo(0));
        x.tick(7);
        Check.fails("promise 13: has left", x, STATE, () -> x.stationOf(2));
        Check.fails("promise 14: has left", x, STATE, () -> x.toGo(2));
        Check.fails("promise 13: no such car", x, MISSING, () -> x.stationOf(4));
        Check.fails("promise 13: car -1", x, MISSING, () -> x.stationOf(-1));
        Check.fails("promise 14: no such car", x, MISSING, () -> x.toGo(4));
        Check.fails("promise 14: car -1", x, MISSING, () -> x.toGo(-1));
    }

    private static void carAt() {
        Lineclock x = someLine();
        Check.fails("promise 15: nobody yet", x, STATE, () -> x.carAt(0));
        x.tick(1);
        Check.same("promise 15: the first one", x.carAt(0), 0);
        Check.fails("promise 15: nobody at station 1", x, STATE, () -> x.carAt(1));
        x.tick(1);
        Check.same("promise 15: moved on", x.carAt(1), 0);
        Check.same("promise 15: the second one", x.carAt(0), 1);
        Check.fails("promise 15: no such station", x, MISSING, () -> x.carAt(2));
        Check.fails("promise 15: station -1", x, MISSING, () -> x.carAt(-1));
        Lineclock y = new Lineclock();
        y.addStation(1, -1, 0, 0);
        y.addCar(0);
        y.tick(2);
        Check.fails("promise 15: free again", y, STATE, () -> y.carAt(0));
    }

    private static void isBack() {
        Lineclock x = new Lineclock();
        x.addStation(2, 0, 1, 4);
        x.addCar(1);
        Check.isTrue("promise 16: waits", !x.isBack(0));
        x.tick(1);
        Check.isTrue("promise 16: along the line", !x.isBack(0));
        x.supply(0, 1);
        x.tick(2);
        Check.isTrue("promise 16: through the loop", x.isBack(0));
        x.setPeriod(1);
        x.tick(4);
        Check.same("promise 16: it has left", Snapshot.trace(x, 0), "0-L0-L0+x");
        Check.isTrue("promise 16: not once it has left", !x.isBack(0));
        Check.fails("promise 16: no such car", x, MISSING, () -> x.isBack(1));
        Check.fails("promise 16: car -1", x, MISSING, () -> x.isBack(-1));
        Lineclock y = new Lineclock();
        y.addStation(1, 0, 1, 4);
        y.addCar(1);
        y.addCar(1);
        y.tick(4);
        Check.same("promise 16: back once and in the loop again", Snapshot.trace(y, 0), "0-L0-L0-L0-");
        Check.isTrue("promise 16: back each time", y.isBack(0));
        Lineclock z = someBackThenLooped();
        Check.isTrue("promise 16: not in the loop", !z.isBack(0));
    }

    /** Car 0 was back at station 0, and is in the loop again. */
    private static Lineclock someBackThenLooped() {
        Lineclock x = new Lineclock();
        x.addStation(1, -1, 0, 0);
        x.addStation(9, -1, 0, 0);
        x.addCar(0);
        x.addCar(0);
        x.tick(2);
        x.fault(0, 0);
        x.tick(9);
        x.fault(0, 1);
        x.tick(1);
        Check.same("promise 16: in the loop again", Snapshot.trace(x, 0), "0+1+L0+L");
        return x;
    }

    private static void orders() {
        Lineclock x = someLine();
        Check.same("promise 17: four wait", x.waiting(), 4);
        Check.same("promise 18: the first one", x.waitingAt(0), 0);
        Check.same("promise 18: the last one", x.waitingAt(3), 3);
        Check.fails("promise 18: no such place", x, PLACE, () -> x.waitingAt(4));
        Check.fails("promise 18: place -1", x, PLACE, () -> x.waitingAt(-1));
        Check.fails("promise 20: nobody", x, PLACE, () -> x.loopedAt(0));
        Check.fails("promise 22: nobody", x, PLACE, () -> x.leftAt(0));
        x.tick(2);
        Check.same("promise 17: two wait", x.waiting(), 2);
        Check.same("promise 18: the order moves up", x.waitingAt(0) * 10 + x.waitingAt(1), 23);
        x.addCar(0);
        Check.same("promise 18: a new one is the last", x.waitingAt(2), 4);
        Check.same("promise 19: nobody", x.looped(), 0);
        x.tick(6);
        Check.same("promise 19: one in the loop", x.looped(), 1);
        Check.same("promise 20: car 0", x.loopedAt(0), 0);
        x.tick(6);
        Check.same("promise 19: two in the loop", x.looped(), 2);
        Check.same("promise 20: the older one first", x.loopedAt(0), 0);
        Check.same("promise 20: the newer one", x.loopedAt(1), 1);
        Check.fails("promise 20: no such place", x, PLACE, () -> x.loopedAt(2));
        Check.fails("promise 20: place -1", x, PLACE, () -> x.loopedAt(-1));
        Check.same("promise 21: nobody", x.left(), 0);
        x.tick(1);
        Check.same("promise 21: one has left", x.left(), 1);
        Check.same("promise 22: car 2", x.leftAt(0), 2);
        Check.fails("promise 22: no such place", x, PLACE, () -> x.leftAt(1));
        Check.fails("promise 22: place -1", x, PLACE, () -> x.leftAt(-1));
    }

    /** Car 1 leaves from the last station ahead of car 0, which is back at station 0, in one tick. */
    private static void orderOfLeaving() {
        Lineclock x = new Lineclock();
        x.addStation(3, -1, 0, 0);
        x.addStation(3, -1, 0, 0);
        x.addCar(0);
        x.addCar(0);
        x.tick(4);
        x.fault(0, 0);
        x.tick(3);
        Check.same("promise 22: back at station 0", Snapshot.trace(x, 0), "0+1+L0+");
        Check.same("promise 22: both leave", x.tick(3), 2);
        Check.same("promise 22: the last station first", x.leftAt(0), 1);
        Check.same("promise 22: then station 0", x.leftAt(1), 0);
        Check.same("promise 23: in one tick", x.leftIn(0), x.leftIn(1));
    }

    private static void leftIn() {
        Lineclock x = new Lineclock();
        x.addStation(1, -1, 0, 0);
        x.addCar(0);
        x.addCar(0);
        Check.fails("promise 23: it waits", x, STATE, () -> x.leftIn(0));
        x.tick(1);
        Check.fails("promise 23: it stands", x, STATE, () -> x.leftIn(0));
        x.tick(5);
        Check.same("promise 23: in tick 2", x.leftIn(0), 2);
        Check.same("promise 23: in tick 3", x.leftIn(1), 3);
        Check.fails("promise 23: no such car", x, MISSING, () -> x.leftIn(2));
        Check.fails("promise 23: car -1", x, MISSING, () -> x.leftIn(-1));
    }
}
