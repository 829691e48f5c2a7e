import java.util.ArrayList;
import java.util.List;
import java.util.NoSuchElementException;

/**
 * Refused calls: in every state in which the document refuses one, the exception that it lists first, and that
 * the call changes nothing, neither at once (Check.fails) nor in what comes later (twins).
 */
public final class RefusedTest {
    private static final Class<IllegalArgumentException> ARGUMENT = IllegalArgumentException.class;
    private static final Class<IllegalStateException> STATE = IllegalStateException.class;
    private static final Class<NoSuchElementException> MISSING = NoSuchElementException.class;
    private static final Class<UnsupportedOperationException> OTHER = UnsupportedOperationException.class;
    private static final Class<IndexOutOfBoundsException> PLACE = IndexOutOfBoundsException.class;

    public static void main(String[] args) {
        stationAfterTicks();
        stationWithoutTicks();
        stationAfterEight();
        supplyBoth();
        addCarBoth();
        swapBoth();
        swapStates();
        faultBoth();
        faultStates();
        tickBoth();
        whereStates();
        leavingStates();
        traceBoth();
        twins();
        Check.end();
    }

    private static void badStations(String what, Lineclock x) {
        Check.fails(what + ", takt 0", x, ARGUMENT, () -> x.addStation(0, 0, 1, 4));
        Check.fails(what + ", takt 10", x, ARGUMENT, () -> x.addStation(10, 0, 1, 4));
        Check.fails(what + ", takt 10 without a part", x, ARGUMENT, () -> x.addStation(10, -1, 1, 4));
        Check.fails(what + ", part -2", x, ARGUMENT, () -> x.addStation(1, -2, 1, 4));
        Check.fails(what + ", part 6", x, ARGUMENT, () -> x.addStation(1, 6, 1, 4));
        Check.fails(what + ", amount 0", x, ARGUMENT, () -> x.addStation(1, 0, 0, 4));
        Check.fails(what + ", amount 5", x, ARGUMENT, () -> x.addStation(1, 0, 5, 30));
        Check.fails(what + ", room 3", x, ARGUMENT, () -> x.addStation(1, 0, 1, 3));
        Check.fails(what + ", room 31", x, ARGUMENT, () -> x.addStation(1, 0, 1, 31));
        Check.fails(what + ", all wrong", x, ARGUMENT, () -> x.addStation(0, 6, 0, 31));
    }

    private static void stationAfterTicks() {
        for (int ticks : new int[] {1, 2, 60}) {
            Lineclock x = new Lineclock();
            x.addStation(1, -1, 0, 0);
            x.tick(ticks);
            badStations("promise 2: after " + ticks + " ticks", x);
            Check.fails("promise 2: after " + ticks + " ticks", x, STATE, () -> x.addStation(1, -1, 0, 0));
            Check.fails("promise 2: with a part", x, STATE, () -> x.addStation(9, 5, 4, 30));
            Check.fails("promise 2: amount and room are free", x, STATE, () -> x.addStation(1, -1, -5, -5));
        }
    }

    /** Neither a refused tick nor a question lets a tick pass. */
    private static void stationWithoutTicks() {
        Lineclock x = new Lineclock();
        Check.fails("promise 8: no station", x, STATE, () -> x.tick(1));
        Check.same("promise 2: after the refused tick", x.addStation(1, -1, 0, 0), 0);
        x.addCar(0);
        Check.fails("promise 8: 61 ticks", x, ARGUMENT, () -> x.tick(61));
        Check.same("promise 31: asked", x.leavesIn(0), 2);
        Check.same("promise 32: asked", x.leavesByTicks(0), 2);
        Check.same("promise 33: asked", x.nextToLeave(), 0);
        x.supply(0, 1);
        x.setPeriod(1);
        Check.same("promise 2: no tick has passed", x.addStation(1, 0, 1, 4), 1);
    }

    private static void stationAfterEight() {
        Lineclock x = new Lineclock();
        for (int i = 0; i < 7; i++) {
            x.addStation(1, -1, 0, 0);
        }
        badStations("promise 2: after seven", x);
        Check.same("promise 2: the eighth", x.addStation(1, -1, 0, 0), 7);
        badStations("promise 2: after eight", x);
        Check.fails("promise 2: the ninth", x, STATE, () -> x.addStation(1, -1, 0, 0));
        Check.fails("promise 2: the ninth, with a part", x, STATE, () -> x.addStation(9, 5, 4, 30));
        x.tick(1);
        badStations("promise 2: after eight and a tick", x);
        Check.fails("promise 2: the ninth, after a tick", x, STATE, () -> x.addStation(1, -1, 0, 0));
    }

    private static void supplyBoth() {
        Lineclock x = new Lineclock();
        for (int part : new int[] {-1, 6}) {
            for (int units : new int[] {0, 1, 99, 100}) {
                Check.fails("promise 3: part before units", x, MISSING, () -> x.supply(part, units));
            }
        }
        for (int i = 0; i < 10; i++) {
            x.supply(5, 99);
        }
        x.supply(5, 9);
        Check.fails("promise 3: 0 before the limit", x, ARGUMENT, () -> x.supply(5, 0));
        Check.fails("promise 3: -1 before the limit", x, ARGUMENT, () -> x.supply(5, -1));
        Check.fails("promise 3: 100 before the limit", x, ARGUMENT, () -> x.supply(5, 100));
        Check.fails("promise 3: full", x, STATE, () -> x.supply(5, 1));
        Check.fails("promise 3: full, with 99", x, STATE, () -> x.supply(5, 99));
        Check.same("promise 3: another part is not full", x.supply(4, 99), 99);
        x.addStation(1, 5, 4, 30);
        x.tick(10);
        Check.same("promise 29: 30 on the shelf", x.inStore(5), 969);
        Check.fails("promise 3: only the store counts, 31", x, STATE, () -> x.supply(5, 31));
        Check.same("promise 3: only the store counts, 30", x.supply(5, 30), 999);
    }

    private static void addCarBoth() {
        Lineclock x = new Lineclock();
        Check.fails("promise 5: -1 before the station", x, ARGUMENT, () -> x.addCar(-1));
        Check.fails("promise 5: 64 before the station", x, ARGUMENT, () -> x.addCar(64));
        Check.fails("promise 5: no station", x, STATE, () -> x.addCar(0));
        Check.fails("promise 5: no station, 63", x, STATE, () -> x.addCar(63));
        x.addStation(1, -1, 0, 0);
        for (int i = 0; i < 30; i++) {
            Check.same("promise 5: number " + i, x.addCar(i), i);
        }
        for (int ticks : new int[] {1, 10, 60}) {
            Check.fails("promise 5: -1 before the 31st", x, ARGUMENT, () -> x.addCar(-1));
            Check.fails("promise 5: 64 before the 31st", x, ARGUMENT, () -> x.addCar(64));
            Check.fails("promise 5: the 31st", x, STATE, () -> x.addCar(0));
            Check.fails("promise 5: the 31st, 63", x, STATE, () -> x.addCar(63));
            x.tick(ticks);
        }
        Check.same("promise 11: 30", x.cars(), 30);
    }

    private static void swapBoth() {
        Lineclock x = new Lineclock();
        Check.fails("promise 6: no car at all", x, MISSING, () -> x.swap(0, 0));
        x.addStation(1, -1, 0, 0);
        x.addCar(0);
        x.addCar(0);
        int[] missing = {-1, 2, 30};
        for (int one : missing) {
            Check.fails("promise 6: missing before the same", x, MISSING, () -> x.swap(one, one));
            Check.fails("promise 6: the first is missing", x, MISSING, () -> x.swap(one, 1));
            Check.fails("promise 6: the other is missing", x, MISSING, () -> x.swap(1, one));
            Check.fails("promise 6: both are missing", x, MISSING, () -> x.swap(one, 7));
        }
        Check.fails("promise 6: the same that waits", x, ARGUMENT, () -> x.swap(1, 1));
        x.tick(1);
        for (int one : missing) {
            Check.fails("promise 6: missing before standing", x, MISSING, () -> x.swap(one, 0));
            Check.fails("promise 6: missing before standing", x, MISSING, () -> x.swap(0, one));
        }
    }

    /** Car 0 has left, car 1 is in the loop, car 2 stands, cars 3 and 4 wait. */
    private static Lineclock allStates() {
        Lineclock x = new Lineclock();
        x.addStation(9, -1, 0, 0);
        x.addStation(4, 0, 1, 4);
        x.addCar(0);
        x.addCar(1);
        for (int i = 0; i < 3; i++) {
            x.addCar(0);
        }
        x.tick(19);
        x.fault(1, 0);
        x.tick(4);
        Check.same("where the cars are", "" + x.stateOf(0) + x.stateOf(1) + x.stateOf(2) + x.stateOf(3)
                + x.stateOf(4), "dlsww");
        return x;
    }

    private static void swapStates() {
        Lineclock x = allStates();
        for (int one = 0; one < 3; one++) {
            int car = one;
            Check.fails("promise 6: the same before the state of " + car, x, ARGUMENT, () -> x.swap(car, car));
            for (int two = 0; two < 5; two++) {
                int other = two;
                if (car != other) {
                    Check.fails("promise 6: " + car + " does not wait", x, STATE, () -> x.swap(car, other));
                    Check.fails("promise 6: " + car + " does not wait", x, STATE, () -> x.swap(other, car));
                }
            }
            Check.fails("promise 6: missing before the state", x, MISSING, () -> x.swap(car, 5));
            Check.fails("promise 6: missing before the state", x, MISSING, () -> x.swap(5, car));
        }
        Check.same("promise 6: both wait", x.swap(3, 4), 1);
    }

    private static void faultBoth() {
        Lineclock x = allStates();
        for (int car = -1; car <= 5; car++) {
            int one = car;
            Check.fails("promise 7: no station -1", x, MISSING, () -> x.fault(one, -1));
            Check.fails("promise 7: no station 2", x, MISSING, () -> x.fault(one, 2));
            Check.fails("promise 7: no station 32", x, MISSING, () -> x.fault(one, 32));
        }
        for (int station = 0; station < 2; station++) {
            int one = station;
            Check.fails("promise 7: no car -1", x, MISSING, () -> x.fault(-1, one));
            Check.fails("promise 7: no car 5", x, MISSING, () -> x.fault(5, one));
        }
        Lineclock y = new Lineclock();
        y.addStation(3, 0, 1, 4);
        y.addStation(3, 0, 1, 4);
        y.addCar(1);
        y.tick(1);
        Check.isTrue("promise 7: not fitted where it stands", y.hasFault(0, 0));
        Check.fails("promise 7: standing there before the open fault", y, STATE, () -> y.fault(0, 0));
        y.tick(3);
        Check.fails("promise 7: the open fault, now that it stands elsewhere", y, OTHER, () -> y.fault(0, 0));
        Check.fails("promise 7: standing there before the open fault", y, STATE, () -> y.fault(0, 1));
        y.tick(3);
        Check.same("promise 7: back at station 0", Snapshot.trace(y, 0), "0-1-L0-");
        Check.fails("promise 7: standing there, through the loop", y, STATE, () -> y.fault(0, 0));
        Check.fails("promise 7: the open fault at station 1", y, OTHER, () -> y.fault(0, 1));
    }

    private static void faultStates() {
        Lineclock x = allStates();
        Check.fails("promise 7: has left, station 0", x, STATE, () -> x.fault(0, 0));
        Check.fails("promise 7: has left, station 1", x, STATE, () -> x.fault(0, 1));
        Check.fails("promise 7: open, in the loop, as told", x, OTHER, () -> x.fault(1, 0));
        Check.fails("promise 7: open, in the loop, as not fitted", x, OTHER, () -> x.fault(1, 1));
        Check.fails("promise 7: stands there", x, STATE, () -> x.fault(2, x.stationOf(2)));
        Check.fails("promise 7: waits", x, STATE, () -> x.fault(3, 0));
        Check.fails("promise 7: waits", x, STATE, () -> x.fault(4, 1));
        Lineclock y = new Lineclock();
        for (int i = 0; i < 8; i++) {
            y.addStation(1, i < 4 ? -1 : 2, 1, 4);
        }
        y.addCar(0);
        for (int at = 0; at < 8; at++) {
            y.tick(1);
            for (int other = at; other < 8; other++) {
                int ahead = other;
                Check.fails("promise 7: at " + at + ", not behind " + ahead, y, STATE, () -> y.fault(0, ahead));
            }
        }
        for (int at = 0; at < 7; at++) {
            Check.same("promise 7: also where it only passed, " + at, y.fault(0, at), at + 1);
        }
        for (int at = 0; at < 7; at++) {
            int behind = at;
            Check.fails("promise 7: open at " + at, y, OTHER, () -> y.fault(0, behind));
        }
    }

    private static void tickBoth() {
        Lineclock x = new Lineclock();
        Check.fails("promise 8: no station, 1", x, STATE, () -> x.tick(1));
        Check.fails("promise 8: no station, 60", x, STATE, () -> x.tick(60));
        Check.fails("promise 8: 0 before the station", x, ARGUMENT, () -> x.tick(0));
        Check.fails("promise 8: 61 before the station", x, ARGUMENT, () -> x.tick(61));
        x.addStation(2, -1, 0, 0);
        for (int i = 0; i < 166; i++) {
            x.tick(60);
        }
        x.addCar(0);
        Check.fails("promise 8: 60 to 10020", x, STATE, () -> x.tick(60));
        Check.fails("promise 8: 40 to 10000", x, STATE, () -> x.tick(40));
        Check.same("promise 8: 39 to 9999", x.tick(39), 1);
        for (int ticks : new int[] {0, -1, 61, Integer.MIN_VALUE, Integer.MAX_VALUE}) {
            Check.fails("promise 8: range before the limit", x, ARGUMENT, () -> x.tick(ticks));
        }
        for (int ticks = 1; ticks <= 60; ticks++) {
            int more = ticks;
            Check.fails("promise 8: beyond the limit", x, STATE, () -> x.tick(more));
        }
    }

    private static void whereStates() {
        Lineclock x = allStates();
        for (int each : new int[] {0, 1, 3, 4}) {
            Check.fails("promise 13: stands at none", x, STATE, () -> x.stationOf(each));
            Check.fails("promise 14: stands at none", x, STATE, () -> x.toGo(each));
            Check.isTrue("promise 16: stands at none", !x.isBack(each));
        }
        for (int each : new int[] {1, 2, 3, 4}) {
            Check.fails("promise 23: has not left", x, STATE, () -> x.leftIn(each));
        }
        Check.same("promise 13: stands", x.stationOf(2), 0);
        Check.same("promise 14: stands", x.toGo(2), 5);
        Check.same("promise 15: stands", x.carAt(0), 2);
        Check.same("promise 23: has left", x.leftIn(0), 11);
        Lineclock y = new Lineclock();
        y.addStation(1, -1, 0, 0);
        y.addStation(1, -1, 0, 0);
        y.addCar(0);
        Check.fails("promise 15: nobody at 0 yet", y, STATE, () -> y.carAt(0));
        y.tick(1);
        Check.fails("promise 15: nobody at 1 yet", y, STATE, () -> y.carAt(1));
        y.tick(1);
        Check.fails("promise 15: nobody at 0 any more", y, STATE, () -> y.carAt(0));
        y.tick(1);
        Check.fails("promise 15: nobody at 1 any more", y, STATE, () -> y.carAt(1));
    }

    private static void leavingStates() {
        Lineclock x = allStates();
        Check.fails("promise 31: has left", x, STATE, () -> x.leavesIn(0));
        Check.fails("promise 32: has left", x, STATE, () -> x.leavesByTicks(0));
        Check.fails("promise 31: in the loop for ever", x, OTHER, () -> x.leavesIn(1));
        Check.fails("promise 32: in the loop for ever", x, OTHER, () -> x.leavesByTicks(1));
        for (int car = 2; car < 5; car++) {
            Check.same("promise 31: as by ticks", x.leavesIn(car), x.leavesByTicks(car));
        }
    }

    private static void traceBoth() {
        Lineclock x = allStates();
        for (int car : new int[] {-1, 5, 30}) {
            for (int index : new int[] {-1, 0, 1000}) {
                Check.fails("promise 35: the car before the index", x, MISSING, () -> x.traceAt(car, index));
            }
        }
        for (int car = 0; car < 5; car++) {
            int one = car;
            Check.fails("promise 35: index -1", x, PLACE, () -> x.traceAt(one, -1));
            Check.fails("promise 35: index at the length", x, PLACE, () -> x.traceAt(one, x.traceLength(one)));
        }
    }

    /** Two lines get the same calls; one gets all that can be refused besides, and each question. */
    private static void twins() {
        Lineclock calm = new Lineclock();
        Lineclock bothered = new Lineclock();
        for (int step = 0; step < 100; step++) {
            String due = advance(calm, step);
            bother(bothered);
            Check.same("exceptions: the answer in step " + step, advance(bothered, step), due);
            Check.same("exceptions: all in step " + step, Snapshot.of(bothered), Snapshot.of(calm));
        }
        Check.isTrue("exceptions: some have left", calm.left() > 3);
        Check.isTrue("exceptions: some have looped", calm.countOf('L') > 3);
    }

    private static String advance(Lineclock x, int step) {
        List<String> answers = new ArrayList<>();
        if (step < 3) {
            answers.add("" + x.addStation(1 + step, step - 1, 1 + step, 5));
        } else if (step % 5 == 0) {
            answers.add(Snapshot.answer(() -> x.addCar(step % 4)));
            answers.add(Snapshot.answer(() -> x.addCar(3)));
        } else if (step % 7 == 0) {
            answers.add("" + x.supply(step % 2, step % 13 + 1));
        } else if (step % 11 == 0) {
            answers.add("" + x.setPeriod(step % 8 + 1));
        } else if (step % 9 == 0) {
            answers.add(Snapshot.answer(() -> x.fault(step % 4, step % 3)));
        } else {
            answers.add("" + x.tick(step % 4 + 1));
        }
        return answers.toString();
    }

    private static void bother(Lineclock x) {
        List<Check.Call> calls = new ArrayList<>();
        calls.add(() -> x.addStation(10, 0, 1, 4));
        calls.add(() -> x.addStation(1, 0, 5, 4));
        calls.add(() -> x.supply(6, 1));
        calls.add(() -> x.supply(0, 100));
        calls.add(() -> x.setPeriod(0));
        calls.add(() -> x.setPeriod(61));
        calls.add(() -> x.addCar(64));
        calls.add(() -> x.swap(0, 0));
        calls.add(() -> x.swap(0, x.cars()));
        calls.add(() -> x.fault(x.cars(), 0));
        calls.add(() -> x.fault(0, x.stations()));
        calls.add(() -> x.tick(0));
        calls.add(() -> x.tick(61));
        if (x.now() > 0) {
            calls.add(() -> x.addStation(1, 0, 1, 4));
        }
        if (x.cars() == 30) {
            calls.add(() -> x.addCar(0));
        }
        for (int car = 0; car < x.cars(); car++) {
            botherCar(x, car, calls);
        }
        for (Check.Call call : calls) {
            String got = Snapshot.answer(call);
            Check.isTrue("exceptions: refused, not " + got, got.endsWith("Exception"));
        }
        Snapshot.of(x);
    }

    private static void botherCar(Lineclock x, int car, List<Check.Call> calls) {
        if (x.stateOf(car) != 'w' && car > 0) {
            calls.add(() -> x.swap(car, 0));
            calls.add(() -> x.swap(0, car));
        }
        for (int i = 0; i < x.stations(); i++) {
            int station = i;
            if (x.stateOf(car) == 'w' || x.stateOf(car) == 'd' || x.hasFault(car, station)) {
                calls.add(() -> x.fault(car, station));
            }
        }
        calls.add(() -> x.traceAt(car, x.traceLength(car)));
    }
}
