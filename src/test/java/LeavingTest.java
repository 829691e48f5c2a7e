import java.util.NoSuchElementException;

/** Promises 31 to 33: when a car would leave, and which one would be the first. */
public final class LeavingTest {
    private static final Class<IllegalStateException> STATE = IllegalStateException.class;
    private static final Class<NoSuchElementException> MISSING = NoSuchElementException.class;
    private static final Class<UnsupportedOperationException> LATE = UnsupportedOperationException.class;

    /** By the order in which the cars of nextWithinTheHorizon go round. */
    private static final int LAST_FITTED = 1;

    public static void main(String[] args) {
        simple();
        askingChangesNothing();
        freeStationAndNewCar();
        faultTold();
        justWithinTheHorizon();
        nextWithinTheHorizon();
        stillHeldUp();
        never();
        roundsOfTheTrial();
        wrong();
        nextToLeave();
        nextOfTwo();
        storeOfAnEarlierQuestion();
        faultOfAnEarlierQuestion();
        earlierQuestionsDoNotMatter();
        Check.end();
    }

    private static void expect(String what, Lineclock x, int car, int due) {
        Check.same("promise 31: " + what, x.leavesIn(car), due);
        Check.same("promise 32: " + what, x.leavesByTicks(car), due);
    }

    private static void expectLate(String what, Lineclock x, int car) {
        Check.fails("promise 31: " + what, x, LATE, () -> x.leavesIn(car));
        Check.fails("promise 32: " + what, x, LATE, () -> x.leavesByTicks(car));
    }

    private static void simple() {
        Lineclock x = new Lineclock();
        x.addStation(3, -1, 0, 0);
        x.addStation(4, -1, 0, 0);
        x.addCar(0);
        x.addCar(0);
        expect("1 + 3 + 4", x, 0, 8);
        expect("held up one tick", x, 1, 12);
        x.tick(1);
        expect("a tick less", x, 0, 7);
        x.tick(6);
        expect("the next tick", x, 0, 1);
        x.tick(1);
        Check.same("promise 31: as was told", x.stateOf(0), 'd');
        expect("the second one", x, 1, 4);
    }

    private static void askingChangesNothing() {
        Lineclock x = new Lineclock();
        x.addStation(2, 0, 1, 4);
        x.addStation(3, 1, 1, 4);
        x.supply(0, 20);
        x.addCar(1);
        x.addCar(3);
        x.tick(2);
        String before = Snapshot.of(x);
        x.leavesIn(0);
        Check.same("promise 31: changes nothing", Snapshot.of(x), before);
        x.leavesByTicks(0);
        Check.same("promise 32: changes nothing", Snapshot.of(x), before);
        x.nextToLeave();
        Check.same("promise 33: changes nothing", Snapshot.of(x), before);
        expectLate("part 1 never comes", x, 1);
    }

    /** A new car enters in the very next tick, though the line is quiet for longer. */
    private static void freeStationAndNewCar() {
        Lineclock x = new Lineclock();
        x.addStation(1, -1, 0, 0);
        x.addStation(9, -1, 0, 0);
        x.addCar(0);
        x.tick(2);
        x.addCar(0);
        expect("in at once, held up, then 9 more", x, 1, 18);
        expect("the first one", x, 0, 9);
        x.setPeriod(60);
        Lineclock y = new Lineclock();
        y.addStation(5, -1, 0, 0);
        y.setPeriod(60);
        y.tick(1);
        y.addCar(0);
        expect("nothing else happens but the car enters", y, 0, 6);
    }

    /** A fault told at a free station calls a car out of the loop in the very next tick. */
    private static void faultTold() {
        Lineclock x = new Lineclock();
        x.setPeriod(60);
        x.addStation(1, -1, 0, 0);
        x.addStation(9, -1, 0, 0);
        x.addCar(0);
        x.addCar(0);
        x.tick(2);
        x.fault(0, 0);
        x.tick(9);
        x.fault(0, 1);
        x.tick(1);
        Check.same("promise 31: it waits in the loop for station 1", Snapshot.trace(x, 0), "0+1+L0+L");
        expect("eight ticks, and nine", x, 0, 17);
        x.fault(0, 0);
        expect("station 0 in between", x, 0, 17);
        x.tick(1);
        Check.same("promise 31: it is there", x.stationOf(0), 0);
        expect("a tick less", x, 0, 16);
    }

    /** 300 ticks are within, 301 are not. */
    private static void justWithinTheHorizon() {
        Lineclock x = new Lineclock();
        for (int i = 0; i < 2; i++) {
            x.addStation(9, -1, 0, 0);
        }
        for (int i = 0; i < 30; i++) {
            x.addCar(0);
        }
        expect("the first one", x, 0, 19);
        expect("the last one", x, 29, 19 + 29 * 9);
        Lineclock y = new Lineclock();
        for (int i = 0; i < 4; i++) {
            y.addStation(9, -1, 0, 0);
        }
        for (int i = 0; i < 30; i++) {
            y.addCar(0);
        }
        expect("298 ticks", y, 29, 37 + 29 * 9);
        Lineclock z = new Lineclock();
        for (int i = 0; i < 4; i++) {
            z.addStation(9, -1, 0, 0);
        }
        z.addStation(2, -1, 0, 0);
        for (int i = 0; i < 30; i++) {
            z.addCar(0);
        }
        expect("just 300 ticks", z, 29, 300);
        Lineclock w = new Lineclock();
        for (int i = 0; i < 4; i++) {
            w.addStation(9, -1, 0, 0);
        }
        w.addStation(3, -1, 0, 0);
        for (int i = 0; i < 30; i++) {
            w.addCar(0);
        }
        expectLate("301 ticks", w, 29);
        w.setPeriod(59);
        expectLate("301 ticks, the last three of them quiet", w, 29);
        w.tick(1);
        expect("300 ticks then", w, 29, 300);
    }

    /**
     * Each round brings what one car needs at station 0, and only car 1 needs nothing of what never comes at
     * station 7: it is the last one to be fitted at station 0, in tick 360, and the first one to leave.
     */
    private static void nextWithinTheHorizon() {
        Lineclock x = new Lineclock();
        x.addStation(1, 0, 4, 4);
        for (int i = 1; i < 7; i++) {
            x.addStation(1, -1, 0, 0);
        }
        x.addStation(1, 1, 1, 4);
        x.setPeriod(60);
        x.supply(0, 99);
        for (int i = 0; i < 6; i++) {
            x.addCar(i == LAST_FITTED ? 1 : 3);
        }
        x.tick(60);
        Check.fails("promise 33: 301 ticks", x, MISSING, () -> x.nextToLeave());
        expectLate("301 ticks by rounds", x, LAST_FITTED);
        x.tick(1);
        Check.same("promise 33: 300 ticks", x.nextToLeave(), LAST_FITTED);
        expect("300 ticks by rounds", x, LAST_FITTED, 300);
        for (int i = 0; i < 5; i++) {
            x.tick(60);
        }
        Check.same("promise 33: as was told", x.leftAt(0), LAST_FITTED);
        Check.same("promise 33: all rounds were needed", x.fitted(), 24L);
    }

    /** A car that is held up has no tick to go, and yet does nothing in the next tick. */
    private static void stillHeldUp() {
        Lineclock x = new Lineclock();
        x.addStation(1, -1, 0, 0);
        x.addStation(9, -1, 0, 0);
        x.addCar(0);
        x.addCar(0);
        x.tick(4);
        Check.same("promise 31: held up", x.toGo(1), 0);
        expect("7 ticks, and 9", x, 1, 16);
    }

    private static void never() {
        Lineclock x = new Lineclock();
        x.addStation(1, 0, 1, 4);
        x.addCar(1);
        expectLate("no part", x, 0);
        Check.fails("promise 33: nobody leaves", x, MISSING, () -> x.nextToLeave());
        x.tick(1);
        expectLate("no part, at the station", x, 0);
        x.supply(0, 1);
        expect("the round in tick 10", x, 0, 10);
        Check.same("promise 33: it leaves then", x.nextToLeave(), 0);
    }

    /** The shelves, the store and the lacks of a trial are not those of the line. */
    private static void roundsOfTheTrial() {
        Lineclock x = new Lineclock();
        x.addStation(2, 3, 2, 4);
        x.supply(3, 6);
        x.setPeriod(7);
        for (int i = 0; i < 4; i++) {
            x.addCar(8);
        }
        expect("fitted in tick 7", x, 0, 9);
        expect("in the loop meanwhile, fitted behind it", x, 1, 11);
        expect("fitted by the second round", x, 2, 17);
        expectLate("the fourth one gets none", x, 3);
        Check.same("promise 31: the store is as it was", x.inStore(3), 6);
        Check.same("promise 31: the shelf is as it was", x.onShelf(0), 0);
        Check.same("promise 31: no lacks", x.lacks(0), 0);
        Check.same("promise 31: nothing fitted", x.fitted(), 0L);
        Check.same("promise 31: no sign", x.countOf('-'), 0);
    }

    private static void wrong() {
        Lineclock x = new Lineclock();
        x.addStation(1, -1, 0, 0);
        x.addCar(0);
        x.tick(2);
        Check.fails("promise 31: it has left", x, STATE, () -> x.leavesIn(0));
        Check.fails("promise 32: it has left", x, STATE, () -> x.leavesByTicks(0));
        Check.fails("promise 31: no such car", x, MISSING, () -> x.leavesIn(1));
        Check.fails("promise 32: no such car", x, MISSING, () -> x.leavesByTicks(1));
        Check.fails("promise 31: car -1", x, MISSING, () -> x.leavesIn(-1));
        Check.fails("promise 32: car -1", x, MISSING, () -> x.leavesByTicks(-1));
        Check.fails("promise 33: nobody is there any more", x, MISSING, () -> x.nextToLeave());
        Lineclock y = new Lineclock();
        Check.fails("promise 33: no station", y, MISSING, () -> y.nextToLeave());
    }

    private static void nextToLeave() {
        Lineclock x = new Lineclock();
        x.addStation(1, 0, 1, 4);
        x.addStation(1, -1, 0, 0);
        x.addCar(1);
        x.addCar(0);
        Check.same("promise 33: the first one lacks a part", x.nextToLeave(), 1);
        x.swap(0, 1);
        x.tick(3);
        Check.same("promise 33: it has left", x.leftAt(0), 1);
        Check.fails("promise 33: nobody else", x, MISSING, () -> x.nextToLeave());
        x.supply(0, 1);
        Check.same("promise 33: once there is a unit", x.nextToLeave(), 0);
    }

    /** If two leave in one tick, the one from the higher station is the first. */
    private static void nextOfTwo() {
        Lineclock x = new Lineclock();
        x.addStation(3, -1, 0, 0);
        x.addStation(3, -1, 0, 0);
        x.addCar(0);
        x.addCar(0);
        x.tick(4);
        x.fault(0, 0);
        x.tick(3);
        expect("both in three ticks", x, 0, 3);
        expect("both in three ticks", x, 1, 3);
        Check.same("promise 33: the higher station first", x.nextToLeave(), 1);
    }

    /** The first question is asked while the store has the units that the second one must not find there. */
    private static void storeOfAnEarlierQuestion() {
        Lineclock x = new Lineclock();
        x.addStation(1, 0, 4, 4);
        x.supply(0, 4);
        x.addCar(0);
        Check.same("promise 31: before the round", x.leavesIn(0), 2);
        x.tick(10);
        x.addCar(1);
        x.addCar(1);
        x.tick(2);
        Check.same("promise 31: the first one has all", Snapshot.trace(x, 1), "0+x");
        // Not by Check.fails, which asks other questions before this one.
        String due = "UnsupportedOperationException";
        Check.same("promise 31: the second one gets none", Snapshot.answer(() -> x.leavesIn(2)), due);
        Check.same("promise 32: the second one gets none", Snapshot.answer(() -> x.leavesByTicks(2)), due);
        Check.same("promise 33: nobody gets any", Snapshot.answer(() -> x.nextToLeave()), "NoSuchElementException");
    }

    /** When the first question is asked the car would lack its part for ever; then it is fitted after all. */
    private static void faultOfAnEarlierQuestion() {
        Lineclock x = new Lineclock();
        x.addStation(2, 0, 1, 4);
        x.addStation(3, -1, 0, 0);
        x.setPeriod(1);
        x.addCar(1);
        expectLate("no part", x, 0);
        x.supply(0, 1);
        x.tick(1);
        Check.same("promise 31: fitted", Snapshot.trace(x, 0), "0+");
        expect("along the line, without a fault", x, 0, 5);
        Check.same("promise 33: it leaves", x.nextToLeave(), 0);
    }

    /** A line that was asked after each step answers like one that got the same steps and was never asked before. */
    private static void earlierQuestionsDoNotMatter() {
        Lineclock asked = new Lineclock();
        for (int step = 0; step < 60; step++) {
            doStep(asked, step);
            for (int car = 0; car < asked.cars(); car++) {
                int one = car;
                Lineclock x = afterStep(step);
                Lineclock y = afterStep(step);
                Check.same("promise 31: car " + car + " after step " + step,
                        Snapshot.answer(() -> asked.leavesIn(one)), Snapshot.answer(() -> x.leavesIn(one)));
                Check.same("promise 32: car " + car + " after step " + step,
                        Snapshot.answer(() -> asked.leavesByTicks(one)), Snapshot.answer(() -> y.leavesByTicks(one)));
            }
            Lineclock z = afterStep(step);
            Check.same("promise 33: after step " + step,
                    Snapshot.answer(() -> asked.nextToLeave()), Snapshot.answer(() -> z.nextToLeave()));
        }
        Check.isTrue("promise 31: some have left meanwhile", asked.left() > 3);
        Check.isTrue("promise 31: some have looped meanwhile", asked.countOf('L') > 3);
    }

    private static Lineclock afterStep(int last) {
        Lineclock x = new Lineclock();
        for (int step = 0; step <= last; step++) {
            doStep(x, step);
        }
        return x;
    }

    private static void doStep(Lineclock x, int step) {
        if (step < 3) {
            x.addStation(1 + step, step - 1, 2, 4);
        } else if (step % 6 == 3) {
            x.addCar(step % 4);
        } else if (step % 10 == 4) {
            x.supply(step % 20 / 10, 3);
        } else if (step % 13 == 0) {
            x.setPeriod(step % 8 + 2);
        } else if (step % 7 == 0) {
            Snapshot.answer(() -> x.fault(step % 5, step % 3));
        } else if (step % 11 == 0 && x.waiting() > 1) {
            x.swap(x.waitingAt(0), x.waitingAt(1));
        } else {
            x.tick(step % 3 + 1);
        }
    }
}
